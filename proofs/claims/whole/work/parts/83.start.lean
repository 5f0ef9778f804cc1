/-! ===== THE START ===== -/
theorem mk_X8_init : MOK mX8_init 0 := ⟨(tbl_t (List.mem_of_getElem? (i := 23) (by decide +kernel)) rfl), (tbl_t (List.mem_of_getElem? (i := 1) (by decide +kernel)) rfl), ⟨by decide +kernel, by decide +kernel, by decide +kernel⟩, by decide, by decide +kernel⟩
theorem im_X8_init : Cond.instanceMethod yX8_init ∈ tblG := (tbl_t (List.mem_of_getElem? (i := 22) (by decide +kernel)) rfl)
theorem mk_X9_init : MOK mX9_init 0 := ⟨(tbl_t (List.mem_of_getElem? (i := 873) (by decide +kernel)) rfl), (tbl_t (List.mem_of_getElem? (i := 10) (by decide +kernel)) rfl), ⟨by decide +kernel, by decide +kernel, by decide +kernel⟩, by decide, by decide +kernel⟩
theorem im_X9_init : Cond.instanceMethod yX9_init ∈ tblG := (tbl_t (List.mem_of_getElem? (i := 872) (by decide +kernel)) rfl)
theorem nk_L_7 : NCK RL 7 8 7 tyX8 := ⟨RX8, TX8, rfl, ix_X8, tyX8_ok, (tbl_t (List.mem_of_getElem? (i := 19) (by decide +kernel)) rfl), (tbl_t (List.mem_of_getElem? (i := 20) (by decide +kernel)) rfl), (tbl_t (List.mem_of_getElem? (i := 1) (by decide +kernel)) rfl)⟩
theorem nk_L_10 : NCK RL 10 9 25 tyX9 := ⟨RX9, TX9, rfl, ix_X9, tyX9_ok, (tbl_t (List.mem_of_getElem? (i := 869) (by decide +kernel)) rfl), (tbl_t (List.mem_of_getElem? (i := 870) (by decide +kernel)) rfl), (tbl_t (List.mem_of_getElem? (i := 10) (by decide +kernel)) rfl)⟩
theorem ln_L_9 : LOK RL 9 mX8_init := .inl (tbl_t (List.mem_of_getElem? (i := 21) (by decide +kernel)) rfl)
theorem ln_L_12 : LOK RL 12 mX9_init := .inl (tbl_t (List.mem_of_getElem? (i := 871) (by decide +kernel)) rfl)
def prm : List Nat := [0, 1, 25, 49, 52, 54, 55, 56, 58, 60, 62, 57, 59, 61, 63, 2, 3, 4, 5, 6, 7, 8, 9, 10, 11, 12, 13, 14, 15, 16, 17, 18, 19, 20, 21, 22, 23, 24, 26, 27, 28, 29, 30, 31, 32, 33, 34, 35, 36, 37, 38, 39, 40, 41, 42, 43, 44, 45, 46, 47, 48, 50, 51, 53, 64, 65, 66, 67, 68, 69, 70, 71, 72, 73, 74, 75, 76, 77, 78, 79, 80, 81]
def adrC (D : va_G) (t : gT) (aA aB b q8 q9 : Nat) (aK aV : Nat → Nat) (o8 : Nat → Nat) (b0 : Nat → Nat) (b1 : Nat → Nat) (b2 : Nat → Nat) (b3 : Nat → Nat) (b4 : Nat → Nat) (b5 : Nat → Nat) (b6 : Nat → Nat) (b7 : Nat → Nat) (b8 : Nat → Nat) (b9 : Nat → Nat) (b10 : Nat → Nat) (b11 : Nat → Nat) (b12 : Nat → Nat) (b13 : Nat → Nat) (b14 : Nat → Nat) (b15 : Nat → Nat) (b16 : Nat → Nat) (b17 : Nat → Nat) (o9 : Nat → Nat) (k : Nat) : Nat := bif Nat.ble 82 k then (bif Nat.beq k 2000 then aA else bif Nat.beq k 2001 then aB else bif Nat.beq k 3000 then b else bif Nat.ble 1100 k then aV (k - 1100) else aK (k - 1000)) else (bif Nat.ble 41 k then (bif Nat.ble 61 k then (bif Nat.ble 71 k then (bif Nat.ble 76 k then (bif Nat.ble 79 k then (bif Nat.ble 80 k then (bif Nat.ble 81 k then (o9 16) else (o9 15)) else (o9 14)) else (bif Nat.ble 77 k then (bif Nat.ble 78 k then (o9 13) else (o9 12)) else (o9 11))) else (bif Nat.ble 73 k then (bif Nat.ble 74 k then (bif Nat.ble 75 k then (o9 10) else (o9 9)) else (o9 8)) else (bif Nat.ble 72 k then (o9 7) else (o9 6)))) else (bif Nat.ble 66 k then (bif Nat.ble 68 k then (bif Nat.ble 69 k then (bif Nat.ble 70 k then (o9 5) else (o9 4)) else (o9 3)) else (bif Nat.ble 67 k then (o9 2) else (o9 1))) else (bif Nat.ble 63 k then (bif Nat.ble 64 k then (bif Nat.ble 65 k then (o9 0) else q9) else (b13 0)) else (bif Nat.ble 62 k then (b12 1) else (b12 0))))) else (bif Nat.ble 51 k then (bif Nat.ble 56 k then (bif Nat.ble 58 k then (bif Nat.ble 59 k then (bif Nat.ble 60 k then (b6 7) else (b6 6)) else (b6 5)) else (bif Nat.ble 57 k then (b11 1) else (b11 0))) else (bif Nat.ble 53 k then (bif Nat.ble 54 k then (bif Nat.ble 55 k then (b6 4) else (b10 1)) else (b10 0)) else (bif Nat.ble 52 k then (b6 3) else (b9 5)))) else (bif Nat.ble 46 k then (bif Nat.ble 48 k then (bif Nat.ble 49 k then (bif Nat.ble 50 k then (b9 4) else (b9 3)) else (b9 2)) else (bif Nat.ble 47 k then (b9 1) else (b9 0))) else (bif Nat.ble 43 k then (bif Nat.ble 44 k then (bif Nat.ble 45 k then (b6 2) else (b8 0)) else (b6 1)) else (bif Nat.ble 42 k then (b7 3) else (b7 2)))))) else (bif Nat.ble 20 k then (bif Nat.ble 30 k then (bif Nat.ble 35 k then (bif Nat.ble 38 k then (bif Nat.ble 39 k then (bif Nat.ble 40 k then (b7 1) else (b7 0)) else (b6 0)) else (bif Nat.ble 36 k then (bif Nat.ble 37 k then (b0 7) else (b0 6)) else (b0 5))) else (bif Nat.ble 32 k then (bif Nat.ble 33 k then (bif Nat.ble 34 k then (b5 1) else (b5 0)) else (b0 4)) else (bif Nat.ble 31 k then (b4 1) else (b4 0)))) else (bif Nat.ble 25 k then (bif Nat.ble 27 k then (bif Nat.ble 28 k then (bif Nat.ble 29 k then (b0 3) else (b3 5)) else (b3 4)) else (bif Nat.ble 26 k then (b3 3) else (b3 2))) else (bif Nat.ble 22 k then (bif Nat.ble 23 k then (bif Nat.ble 24 k then (b3 1) else (b3 0)) else (b0 2)) else (bif Nat.ble 21 k then (b2 0) else (b0 1))))) else (bif Nat.ble 10 k then (bif Nat.ble 15 k then (bif Nat.ble 17 k then (bif Nat.ble 18 k then (bif Nat.ble 19 k then (b1 3) else (b1 2)) else (b1 1)) else (bif Nat.ble 16 k then (b1 0) else (b0 0))) else (bif Nat.ble 12 k then (bif Nat.ble 13 k then (bif Nat.ble 14 k then (b17 0) else (b16 0)) else (b15 0)) else (bif Nat.ble 11 k then (b14 0) else (o8 9)))) else (bif Nat.ble 5 k then (bif Nat.ble 7 k then (bif Nat.ble 8 k then (bif Nat.ble 9 k then (o8 8) else (o8 7)) else (o8 6)) else (bif Nat.ble 6 k then (o8 5) else (o8 4))) else (bif Nat.ble 2 k then (bif Nat.ble 3 k then (bif Nat.ble 4 k then (o8 3) else (o8 2)) else (o8 1)) else (bif Nat.ble 1 k then (o8 0) else q8))))))
def GG (D : va_G) (t : gT) (aA aB b q8 q9 : Nat) (aK aV : Nat → Nat) (o8 : Nat → Nat) (b0 : Nat → Nat) (b1 : Nat → Nat) (b2 : Nat → Nat) (b3 : Nat → Nat) (b4 : Nat → Nat) (b5 : Nat → Nat) (b6 : Nat → Nat) (b7 : Nat → Nat) (b8 : Nat → Nat) (b9 : Nat → Nat) (b10 : Nat → Nat) (b11 : Nat → Nat) (b12 : Nat → Nat) (b13 : Nat → Nat) (b14 : Nat → Nat) (b15 : Nat → Nat) (b16 : Nat → Nat) (b17 : Nat → Nat) (o9 : Nat → Nat) : gG := (D, adrC D t aA aB b q8 q9 aK aV o8 b0 b1 b2 b3 b4 b5 b6 b7 b8 b9 b10 b11 b12 b13 b14 b15 b16 b17 o9, fun k => [t.1, t.2.1, t.2.2].getD k 0)
theorem lc {α : Type} {a b : α} {l m : List α} (h : a = b) (k : l = m) : a :: l = b :: m := by rw [h, k]
theorem pr_eq {α β : Type} {a a' : α} {b b' : β} (h : a = a') (k : b = b') : (a, b) = (a', b') := by rw [h, k]
theorem fv_r {G : gG} {M : Mem} {k j t : Nat} (h1 : gs k j = false) (h2 : gr k j = some t) : fvV G M k j = .ref (G.2.1 t) := by simp only [fvV, h1, h2]
theorem fv_i {G : gG} {M : Mem} {k j : Nat} {x : Int32} (h1 : gs k j = false) (h2 : gr k j = none) (h3 : M.1 k j = x) : fvV G M k j = .int x := by simp only [fvV, h1, h2, h3]
theorem fv_s {G : gG} {M : Mem} {k j : Nat} (h1 : gs k j = true) (h3 : M.1 k j = 0) : fvV G M k j = .ref (G.2.1 1000) := by
  simp only [fvV, h1, h3]
  rfl
theorem fQ_ok (f : Nat → Nat) : (fun j => (gr 5 j).map f) = va_up (va_up (va_up (va_up (fun _ => none) 0 (some (f 7))) 1 (some (f 8))) 2 (some (f 9))) 3 (some (f 10)) := by
  funext j
  match j with
  | 0 => rfl
  | 1 => rfl
  | 2 => rfl
  | 3 => rfl
  | n + 4 => simp [va_up]; rfl
theorem en_0 (G : gG) : entE G M0 0 = .inr (8, [.ref (G.2.1 1), .ref (G.2.1 2), .ref (G.2.1 3), .ref (G.2.1 4), .ref (G.2.1 5), .ref (G.2.1 6), .int 0]) := by
  rw [ent_obj G M0 (k := 0) (ci := 8) (N := 7) (by decide +kernel), show List.range 7 = [0, 1, 2, 3, 4, 5, 6] from by decide +kernel]
  exact congrArg (fun l => Sum.inr (8, l)) (lc (fv_r (by decide +kernel) (by decide +kernel)) (lc (fv_r (by decide +kernel) (by decide +kernel)) (lc (fv_r (by decide +kernel) (by decide +kernel)) (lc (fv_r (by decide +kernel) (by decide +kernel)) (lc (fv_r (by decide +kernel) (by decide +kernel)) (lc (fv_r (by decide +kernel) (by decide +kernel)) (lc (fv_i (by decide +kernel) (by decide +kernel) rfl) (rfl))))))))
theorem en_1 (G : gG) : entE G M0 1 = .inr (7, [.ref (G.2.1 15), .ref (G.2.1 20), .ref (G.2.1 22), .ref (G.2.1 29), .ref (G.2.1 32), .ref (G.2.1 35), .int 0, .ref (G.2.1 36), .int 0, .int 0, .int 1, .int 0, .int 0, .ref (G.2.1 37)]) := by
  rw [ent_obj G M0 (k := 1) (ci := 7) (N := 14) (by decide +kernel), show List.range 14 = [0, 1, 2, 3, 4, 5, 6, 7, 8, 9, 10, 11, 12, 13] from by decide +kernel]
  exact congrArg (fun l => Sum.inr (7, l)) (lc (fv_r (by decide +kernel) (by decide +kernel)) (lc (fv_r (by decide +kernel) (by decide +kernel)) (lc (fv_r (by decide +kernel) (by decide +kernel)) (lc (fv_r (by decide +kernel) (by decide +kernel)) (lc (fv_r (by decide +kernel) (by decide +kernel)) (lc (fv_r (by decide +kernel) (by decide +kernel)) (lc (fv_i (by decide +kernel) (by decide +kernel) rfl) (lc (fv_r (by decide +kernel) (by decide +kernel)) (lc (fv_i (by decide +kernel) (by decide +kernel) rfl) (lc (fv_i (by decide +kernel) (by decide +kernel) rfl) (lc (fv_i (by decide +kernel) (by decide +kernel) rfl) (lc (fv_i (by decide +kernel) (by decide +kernel) rfl) (lc (fv_i (by decide +kernel) (by decide +kernel) rfl) (lc (fv_r (by decide +kernel) (by decide +kernel)) (rfl)))))))))))))))
theorem en_2 (G : gG) : entE G M0 2 = .inr (7, [.ref (G.2.1 38), .ref (G.2.1 43), .ref (G.2.1 45), .ref (G.2.1 52), .ref (G.2.1 55), .ref (G.2.1 58), .int 0, .ref (G.2.1 59), .int 0, .int 0, .int 1, .int 0, .int 0, .ref (G.2.1 60)]) := by
  rw [ent_obj G M0 (k := 2) (ci := 7) (N := 14) (by decide +kernel), show List.range 14 = [0, 1, 2, 3, 4, 5, 6, 7, 8, 9, 10, 11, 12, 13] from by decide +kernel]
  exact congrArg (fun l => Sum.inr (7, l)) (lc (fv_r (by decide +kernel) (by decide +kernel)) (lc (fv_r (by decide +kernel) (by decide +kernel)) (lc (fv_r (by decide +kernel) (by decide +kernel)) (lc (fv_r (by decide +kernel) (by decide +kernel)) (lc (fv_r (by decide +kernel) (by decide +kernel)) (lc (fv_r (by decide +kernel) (by decide +kernel)) (lc (fv_i (by decide +kernel) (by decide +kernel) rfl) (lc (fv_r (by decide +kernel) (by decide +kernel)) (lc (fv_i (by decide +kernel) (by decide +kernel) rfl) (lc (fv_i (by decide +kernel) (by decide +kernel) rfl) (lc (fv_i (by decide +kernel) (by decide +kernel) rfl) (lc (fv_i (by decide +kernel) (by decide +kernel) rfl) (lc (fv_i (by decide +kernel) (by decide +kernel) rfl) (lc (fv_r (by decide +kernel) (by decide +kernel)) (rfl)))))))))))))))
theorem en_3 (G : gG) : entE G M0 3 = .inr (4, [.ref (G.2.1 61), .ref (G.2.1 62), .int 0, .int 0, .int 0, .ref (G.2.1 1000)]) := by
  rw [ent_obj G M0 (k := 3) (ci := 4) (N := 6) (by decide +kernel), show List.range 6 = [0, 1, 2, 3, 4, 5] from by decide +kernel]
  exact congrArg (fun l => Sum.inr (4, l)) (lc (fv_r (by decide +kernel) (by decide +kernel)) (lc (fv_r (by decide +kernel) (by decide +kernel)) (lc (fv_i (by decide +kernel) (by decide +kernel) rfl) (lc (fv_i (by decide +kernel) (by decide +kernel) rfl) (lc (fv_i (by decide +kernel) (by decide +kernel) rfl) (lc (fv_s (by decide +kernel) rfl) (rfl)))))))
theorem en_4 (G : gG) : entE G M0 4 = .inr (0, [.ref (G.2.1 63), .int 0, .int 0, .int 0, .int 0, .int 0]) := by
  rw [ent_obj G M0 (k := 4) (ci := 0) (N := 6) (by decide +kernel), show List.range 6 = [0, 1, 2, 3, 4, 5] from by decide +kernel]
  exact congrArg (fun l => Sum.inr (0, l)) (lc (fv_r (by decide +kernel) (by decide +kernel)) (lc (fv_i (by decide +kernel) (by decide +kernel) rfl) (lc (fv_i (by decide +kernel) (by decide +kernel) rfl) (lc (fv_i (by decide +kernel) (by decide +kernel) rfl) (lc (fv_i (by decide +kernel) (by decide +kernel) rfl) (lc (fv_i (by decide +kernel) (by decide +kernel) rfl) (rfl)))))))
theorem en_5 (G : gG) : entE G M0 5 = .inl (G.2.2 2, 4, .inr (.inr (.inr (.inr (va_up (va_up (va_up (va_up (fun _ => none) 0 (some (G.2.1 7))) 1 (some (G.2.1 8))) 2 (some (G.2.1 9))) 3 (some (G.2.1 10))))))) := by
  rw [ent_ref G M0 (k := 5) (n := 4) (z := 0) (by decide +kernel), fQ_ok]
theorem en_6 (G : gG) : entE G M0 6 = .inl (G.2.2 0, 7, .inl (fun _ => 0)) := by
  rw [ent_int G M0 (k := 6) (n := 7) (z := 0) (by decide +kernel)]
  rfl
theorem en_7 (G : gG) : entE G M0 7 = .inr (5, [.ref (G.2.1 11), .int 0, .int 0]) := by
  rw [ent_obj G M0 (k := 7) (ci := 5) (N := 3) (by decide +kernel), show List.range 3 = [0, 1, 2] from by decide +kernel]
  exact congrArg (fun l => Sum.inr (5, l)) (lc (fv_r (by decide +kernel) (by decide +kernel)) (lc (fv_i (by decide +kernel) (by decide +kernel) rfl) (lc (fv_i (by decide +kernel) (by decide +kernel) rfl) (rfl))))
theorem en_8 (G : gG) : entE G M0 8 = .inr (5, [.ref (G.2.1 12), .int 0, .int 0]) := by
  rw [ent_obj G M0 (k := 8) (ci := 5) (N := 3) (by decide +kernel), show List.range 3 = [0, 1, 2] from by decide +kernel]
  exact congrArg (fun l => Sum.inr (5, l)) (lc (fv_r (by decide +kernel) (by decide +kernel)) (lc (fv_i (by decide +kernel) (by decide +kernel) rfl) (lc (fv_i (by decide +kernel) (by decide +kernel) rfl) (rfl))))
theorem en_9 (G : gG) : entE G M0 9 = .inr (5, [.ref (G.2.1 13), .int 0, .int 0]) := by
  rw [ent_obj G M0 (k := 9) (ci := 5) (N := 3) (by decide +kernel), show List.range 3 = [0, 1, 2] from by decide +kernel]
  exact congrArg (fun l => Sum.inr (5, l)) (lc (fv_r (by decide +kernel) (by decide +kernel)) (lc (fv_i (by decide +kernel) (by decide +kernel) rfl) (lc (fv_i (by decide +kernel) (by decide +kernel) rfl) (rfl))))
theorem en_10 (G : gG) : entE G M0 10 = .inr (5, [.ref (G.2.1 14), .int 0, .int 0]) := by
  rw [ent_obj G M0 (k := 10) (ci := 5) (N := 3) (by decide +kernel), show List.range 3 = [0, 1, 2] from by decide +kernel]
  exact congrArg (fun l => Sum.inr (5, l)) (lc (fv_r (by decide +kernel) (by decide +kernel)) (lc (fv_i (by decide +kernel) (by decide +kernel) rfl) (lc (fv_i (by decide +kernel) (by decide +kernel) rfl) (rfl))))
theorem en_11 (G : gG) : entE G M0 11 = .inl (G.2.2 0, 24, .inl (fun _ => 0)) := by
  rw [ent_int G M0 (k := 11) (n := 24) (z := 0) (by decide +kernel)]
  rfl
theorem en_12 (G : gG) : entE G M0 12 = .inl (G.2.2 0, 24, .inl (fun _ => 0)) := by
  rw [ent_int G M0 (k := 12) (n := 24) (z := 0) (by decide +kernel)]
  rfl
theorem en_13 (G : gG) : entE G M0 13 = .inl (G.2.2 0, 24, .inl (fun _ => 0)) := by
  rw [ent_int G M0 (k := 13) (n := 24) (z := 0) (by decide +kernel)]
  rfl
theorem en_14 (G : gG) : entE G M0 14 = .inl (G.2.2 0, 24, .inl (fun _ => 0)) := by
  rw [ent_int G M0 (k := 14) (n := 24) (z := 0) (by decide +kernel)]
  rfl
theorem en_15 (G : gG) : entE G M0 15 = .inr (6, [.ref (G.2.1 16), .ref (G.2.1 17), .ref (G.2.1 18), .ref (G.2.1 19), .int 0]) := by
  rw [ent_obj G M0 (k := 15) (ci := 6) (N := 5) (by decide +kernel), show List.range 5 = [0, 1, 2, 3, 4] from by decide +kernel]
  exact congrArg (fun l => Sum.inr (6, l)) (lc (fv_r (by decide +kernel) (by decide +kernel)) (lc (fv_r (by decide +kernel) (by decide +kernel)) (lc (fv_r (by decide +kernel) (by decide +kernel)) (lc (fv_r (by decide +kernel) (by decide +kernel)) (lc (fv_i (by decide +kernel) (by decide +kernel) rfl) (rfl))))))
theorem en_16 (G : gG) : entE G M0 16 = .inl (G.2.2 0, 6, .inl (fun _ => 0)) := by
  rw [ent_int G M0 (k := 16) (n := 6) (z := 0) (by decide +kernel)]
  rfl
theorem en_17 (G : gG) : entE G M0 17 = .inl (G.2.2 0, 6, .inl (fun _ => 0)) := by
  rw [ent_int G M0 (k := 17) (n := 6) (z := 0) (by decide +kernel)]
  rfl
theorem en_18 (G : gG) : entE G M0 18 = .inl (G.2.2 0, 6, .inl (fun _ => 0)) := by
  rw [ent_int G M0 (k := 18) (n := 6) (z := 0) (by decide +kernel)]
  rfl
theorem en_19 (G : gG) : entE G M0 19 = .inl (G.2.2 0, 6, .inl (fun _ => 0)) := by
  rw [ent_int G M0 (k := 19) (n := 6) (z := 0) (by decide +kernel)]
  rfl
theorem en_20 (G : gG) : entE G M0 20 = .inr (3, [.ref (G.2.1 21), .int 0]) := by
  rw [ent_obj G M0 (k := 20) (ci := 3) (N := 2) (by decide +kernel), show List.range 2 = [0, 1] from by decide +kernel]
  exact congrArg (fun l => Sum.inr (3, l)) (lc (fv_r (by decide +kernel) (by decide +kernel)) (lc (fv_i (by decide +kernel) (by decide +kernel) rfl) (rfl)))
theorem en_21 (G : gG) : entE G M0 21 = .inl (G.2.2 0, 40, .inl (fun _ => 0)) := by
  rw [ent_int G M0 (k := 21) (n := 40) (z := 0) (by decide +kernel)]
  rfl
theorem en_22 (G : gG) : entE G M0 22 = .inr (2, [.ref (G.2.1 23), .ref (G.2.1 24), .int 0, .ref (G.2.1 25), .ref (G.2.1 26), .ref (G.2.1 27), .ref (G.2.1 28)]) := by
  rw [ent_obj G M0 (k := 22) (ci := 2) (N := 7) (by decide +kernel), show List.range 7 = [0, 1, 2, 3, 4, 5, 6] from by decide +kernel]
  exact congrArg (fun l => Sum.inr (2, l)) (lc (fv_r (by decide +kernel) (by decide +kernel)) (lc (fv_r (by decide +kernel) (by decide +kernel)) (lc (fv_i (by decide +kernel) (by decide +kernel) rfl) (lc (fv_r (by decide +kernel) (by decide +kernel)) (lc (fv_r (by decide +kernel) (by decide +kernel)) (lc (fv_r (by decide +kernel) (by decide +kernel)) (lc (fv_r (by decide +kernel) (by decide +kernel)) (rfl))))))))
theorem en_23 (G : gG) : entE G M0 23 = .inl (G.2.2 0, 8, .inl (fun _ => 0)) := by
  rw [ent_int G M0 (k := 23) (n := 8) (z := 0) (by decide +kernel)]
  rfl
theorem en_24 (G : gG) : entE G M0 24 = .inl (G.2.2 0, 8, .inl (fun _ => 0)) := by
  rw [ent_int G M0 (k := 24) (n := 8) (z := 0) (by decide +kernel)]
  rfl
theorem en_25 (G : gG) : entE G M0 25 = .inl (G.2.2 0, 8, .inl (fun _ => 0)) := by
  rw [ent_int G M0 (k := 25) (n := 8) (z := 0) (by decide +kernel)]
  rfl
theorem en_26 (G : gG) : entE G M0 26 = .inl (G.2.2 1, 8, .inr (.inl (fun _ => 0))) := by
  rw [ent_long G M0 (k := 26) (n := 8) (z := 0) (by decide +kernel)]
  rfl
theorem en_27 (G : gG) : entE G M0 27 = .inl (G.2.2 0, 8, .inl (fun _ => 0)) := by
  rw [ent_int G M0 (k := 27) (n := 8) (z := 0) (by decide +kernel)]
  rfl
theorem en_28 (G : gG) : entE G M0 28 = .inl (G.2.2 1, 8, .inr (.inl (fun _ => 0))) := by
  rw [ent_long G M0 (k := 28) (n := 8) (z := 0) (by decide +kernel)]
  rfl
theorem en_29 (G : gG) : entE G M0 29 = .inr (1, [.ref (G.2.1 30), .ref (G.2.1 31), .int 0, .int 0]) := by
  rw [ent_obj G M0 (k := 29) (ci := 1) (N := 4) (by decide +kernel), show List.range 4 = [0, 1, 2, 3] from by decide +kernel]
  exact congrArg (fun l => Sum.inr (1, l)) (lc (fv_r (by decide +kernel) (by decide +kernel)) (lc (fv_r (by decide +kernel) (by decide +kernel)) (lc (fv_i (by decide +kernel) (by decide +kernel) rfl) (lc (fv_i (by decide +kernel) (by decide +kernel) rfl) (rfl)))))
theorem en_30 (G : gG) : entE G M0 30 = .inl (G.2.2 0, 60, .inl (fun _ => 0)) := by
  rw [ent_int G M0 (k := 30) (n := 60) (z := 0) (by decide +kernel)]
  rfl
theorem en_31 (G : gG) : entE G M0 31 = .inl (G.2.2 0, 60, .inl (fun _ => 0)) := by
  rw [ent_int G M0 (k := 31) (n := 60) (z := 0) (by decide +kernel)]
  rfl
theorem en_32 (G : gG) : entE G M0 32 = .inr (1, [.ref (G.2.1 33), .ref (G.2.1 34), .int 0, .int 0]) := by
  rw [ent_obj G M0 (k := 32) (ci := 1) (N := 4) (by decide +kernel), show List.range 4 = [0, 1, 2, 3] from by decide +kernel]
  exact congrArg (fun l => Sum.inr (1, l)) (lc (fv_r (by decide +kernel) (by decide +kernel)) (lc (fv_r (by decide +kernel) (by decide +kernel)) (lc (fv_i (by decide +kernel) (by decide +kernel) rfl) (lc (fv_i (by decide +kernel) (by decide +kernel) rfl) (rfl)))))
theorem en_33 (G : gG) : entE G M0 33 = .inl (G.2.2 0, 60, .inl (fun _ => 0)) := by
  rw [ent_int G M0 (k := 33) (n := 60) (z := 0) (by decide +kernel)]
  rfl
theorem en_34 (G : gG) : entE G M0 34 = .inl (G.2.2 0, 60, .inl (fun _ => 0)) := by
  rw [ent_int G M0 (k := 34) (n := 60) (z := 0) (by decide +kernel)]
  rfl
theorem en_35 (G : gG) : entE G M0 35 = .inl (G.2.2 0, 60, .inl (fun _ => 0)) := by
  rw [ent_int G M0 (k := 35) (n := 60) (z := 0) (by decide +kernel)]
  rfl
theorem en_36 (G : gG) : entE G M0 36 = .inl (G.2.2 0, 24, .inl (fun _ => 0)) := by
  rw [ent_int G M0 (k := 36) (n := 24) (z := 0) (by decide +kernel)]
  rfl
theorem en_37 (G : gG) : entE G M0 37 = .inl (G.2.2 0, 10, .inl (fun _ => 0)) := by
  rw [ent_int G M0 (k := 37) (n := 10) (z := 0) (by decide +kernel)]
  rfl
theorem en_38 (G : gG) : entE G M0 38 = .inr (6, [.ref (G.2.1 39), .ref (G.2.1 40), .ref (G.2.1 41), .ref (G.2.1 42), .int 0]) := by
  rw [ent_obj G M0 (k := 38) (ci := 6) (N := 5) (by decide +kernel), show List.range 5 = [0, 1, 2, 3, 4] from by decide +kernel]
  exact congrArg (fun l => Sum.inr (6, l)) (lc (fv_r (by decide +kernel) (by decide +kernel)) (lc (fv_r (by decide +kernel) (by decide +kernel)) (lc (fv_r (by decide +kernel) (by decide +kernel)) (lc (fv_r (by decide +kernel) (by decide +kernel)) (lc (fv_i (by decide +kernel) (by decide +kernel) rfl) (rfl))))))
theorem en_39 (G : gG) : entE G M0 39 = .inl (G.2.2 0, 6, .inl (fun _ => 0)) := by
  rw [ent_int G M0 (k := 39) (n := 6) (z := 0) (by decide +kernel)]
  rfl
theorem en_40 (G : gG) : entE G M0 40 = .inl (G.2.2 0, 6, .inl (fun _ => 0)) := by
  rw [ent_int G M0 (k := 40) (n := 6) (z := 0) (by decide +kernel)]
  rfl
theorem en_41 (G : gG) : entE G M0 41 = .inl (G.2.2 0, 6, .inl (fun _ => 0)) := by
  rw [ent_int G M0 (k := 41) (n := 6) (z := 0) (by decide +kernel)]
  rfl
theorem en_42 (G : gG) : entE G M0 42 = .inl (G.2.2 0, 6, .inl (fun _ => 0)) := by
  rw [ent_int G M0 (k := 42) (n := 6) (z := 0) (by decide +kernel)]
  rfl
theorem en_43 (G : gG) : entE G M0 43 = .inr (3, [.ref (G.2.1 44), .int 0]) := by
  rw [ent_obj G M0 (k := 43) (ci := 3) (N := 2) (by decide +kernel), show List.range 2 = [0, 1] from by decide +kernel]
  exact congrArg (fun l => Sum.inr (3, l)) (lc (fv_r (by decide +kernel) (by decide +kernel)) (lc (fv_i (by decide +kernel) (by decide +kernel) rfl) (rfl)))
theorem en_44 (G : gG) : entE G M0 44 = .inl (G.2.2 0, 40, .inl (fun _ => 0)) := by
  rw [ent_int G M0 (k := 44) (n := 40) (z := 0) (by decide +kernel)]
  rfl
theorem en_45 (G : gG) : entE G M0 45 = .inr (2, [.ref (G.2.1 46), .ref (G.2.1 47), .int 0, .ref (G.2.1 48), .ref (G.2.1 49), .ref (G.2.1 50), .ref (G.2.1 51)]) := by
  rw [ent_obj G M0 (k := 45) (ci := 2) (N := 7) (by decide +kernel), show List.range 7 = [0, 1, 2, 3, 4, 5, 6] from by decide +kernel]
  exact congrArg (fun l => Sum.inr (2, l)) (lc (fv_r (by decide +kernel) (by decide +kernel)) (lc (fv_r (by decide +kernel) (by decide +kernel)) (lc (fv_i (by decide +kernel) (by decide +kernel) rfl) (lc (fv_r (by decide +kernel) (by decide +kernel)) (lc (fv_r (by decide +kernel) (by decide +kernel)) (lc (fv_r (by decide +kernel) (by decide +kernel)) (lc (fv_r (by decide +kernel) (by decide +kernel)) (rfl))))))))
theorem en_46 (G : gG) : entE G M0 46 = .inl (G.2.2 0, 8, .inl (fun _ => 0)) := by
  rw [ent_int G M0 (k := 46) (n := 8) (z := 0) (by decide +kernel)]
  rfl
theorem en_47 (G : gG) : entE G M0 47 = .inl (G.2.2 0, 8, .inl (fun _ => 0)) := by
  rw [ent_int G M0 (k := 47) (n := 8) (z := 0) (by decide +kernel)]
  rfl
theorem en_48 (G : gG) : entE G M0 48 = .inl (G.2.2 0, 8, .inl (fun _ => 0)) := by
  rw [ent_int G M0 (k := 48) (n := 8) (z := 0) (by decide +kernel)]
  rfl
theorem en_49 (G : gG) : entE G M0 49 = .inl (G.2.2 1, 8, .inr (.inl (fun _ => 0))) := by
  rw [ent_long G M0 (k := 49) (n := 8) (z := 0) (by decide +kernel)]
  rfl
theorem en_50 (G : gG) : entE G M0 50 = .inl (G.2.2 0, 8, .inl (fun _ => 0)) := by
  rw [ent_int G M0 (k := 50) (n := 8) (z := 0) (by decide +kernel)]
  rfl
theorem en_51 (G : gG) : entE G M0 51 = .inl (G.2.2 1, 8, .inr (.inl (fun _ => 0))) := by
  rw [ent_long G M0 (k := 51) (n := 8) (z := 0) (by decide +kernel)]
  rfl
theorem en_52 (G : gG) : entE G M0 52 = .inr (1, [.ref (G.2.1 53), .ref (G.2.1 54), .int 0, .int 0]) := by
  rw [ent_obj G M0 (k := 52) (ci := 1) (N := 4) (by decide +kernel), show List.range 4 = [0, 1, 2, 3] from by decide +kernel]
  exact congrArg (fun l => Sum.inr (1, l)) (lc (fv_r (by decide +kernel) (by decide +kernel)) (lc (fv_r (by decide +kernel) (by decide +kernel)) (lc (fv_i (by decide +kernel) (by decide +kernel) rfl) (lc (fv_i (by decide +kernel) (by decide +kernel) rfl) (rfl)))))
theorem en_53 (G : gG) : entE G M0 53 = .inl (G.2.2 0, 60, .inl (fun _ => 0)) := by
  rw [ent_int G M0 (k := 53) (n := 60) (z := 0) (by decide +kernel)]
  rfl
theorem en_54 (G : gG) : entE G M0 54 = .inl (G.2.2 0, 60, .inl (fun _ => 0)) := by
  rw [ent_int G M0 (k := 54) (n := 60) (z := 0) (by decide +kernel)]
  rfl
theorem en_55 (G : gG) : entE G M0 55 = .inr (1, [.ref (G.2.1 56), .ref (G.2.1 57), .int 0, .int 0]) := by
  rw [ent_obj G M0 (k := 55) (ci := 1) (N := 4) (by decide +kernel), show List.range 4 = [0, 1, 2, 3] from by decide +kernel]
  exact congrArg (fun l => Sum.inr (1, l)) (lc (fv_r (by decide +kernel) (by decide +kernel)) (lc (fv_r (by decide +kernel) (by decide +kernel)) (lc (fv_i (by decide +kernel) (by decide +kernel) rfl) (lc (fv_i (by decide +kernel) (by decide +kernel) rfl) (rfl)))))
theorem en_56 (G : gG) : entE G M0 56 = .inl (G.2.2 0, 60, .inl (fun _ => 0)) := by
  rw [ent_int G M0 (k := 56) (n := 60) (z := 0) (by decide +kernel)]
  rfl
theorem en_57 (G : gG) : entE G M0 57 = .inl (G.2.2 0, 60, .inl (fun _ => 0)) := by
  rw [ent_int G M0 (k := 57) (n := 60) (z := 0) (by decide +kernel)]
  rfl
theorem en_58 (G : gG) : entE G M0 58 = .inl (G.2.2 0, 60, .inl (fun _ => 0)) := by
  rw [ent_int G M0 (k := 58) (n := 60) (z := 0) (by decide +kernel)]
  rfl
theorem en_59 (G : gG) : entE G M0 59 = .inl (G.2.2 0, 24, .inl (fun _ => 0)) := by
  rw [ent_int G M0 (k := 59) (n := 24) (z := 0) (by decide +kernel)]
  rfl
theorem en_60 (G : gG) : entE G M0 60 = .inl (G.2.2 0, 10, .inl (fun _ => 0)) := by
  rw [ent_int G M0 (k := 60) (n := 10) (z := 0) (by decide +kernel)]
  rfl
theorem en_61 (G : gG) : entE G M0 61 = .inl (G.2.2 0, 60, .inl (fun _ => 0)) := by
  rw [ent_int G M0 (k := 61) (n := 60) (z := 0) (by decide +kernel)]
  rfl
theorem en_62 (G : gG) : entE G M0 62 = .inl (G.2.2 0, 60, .inl (fun _ => 0)) := by
  rw [ent_int G M0 (k := 62) (n := 60) (z := 0) (by decide +kernel)]
  rfl
theorem en_63 (G : gG) : entE G M0 63 = .inl (G.2.2 0, 30, .inl (fun _ => 0)) := by
  rw [ent_int G M0 (k := 63) (n := 30) (z := 0) (by decide +kernel)]
  rfl
theorem en_64 (G : gG) : entE G M0 64 = .inr (9, [.ref (G.2.1 65), .ref (G.2.1 66), .int 0, .ref (G.2.1 67), .ref (G.2.1 68), .int 0, .int 0, .int 0, .int 0, .ref (G.2.1 69), .ref (G.2.1 70), .ref (G.2.1 71), .ref (G.2.1 72), .ref (G.2.1 73), .ref (G.2.1 74), .ref (G.2.1 75), .ref (G.2.1 76), .ref (G.2.1 77), .int 0, .int 0, .int 0, .ref (G.2.1 78), .ref (G.2.1 79), .ref (G.2.1 80), .ref (G.2.1 81)]) := by
  rw [ent_obj G M0 (k := 64) (ci := 9) (N := 25) (by decide +kernel), show List.range 25 = [0, 1, 2, 3, 4, 5, 6, 7, 8, 9, 10, 11, 12, 13, 14, 15, 16, 17, 18, 19, 20, 21, 22, 23, 24] from by decide +kernel]
  exact congrArg (fun l => Sum.inr (9, l)) (lc (fv_r (by decide +kernel) (by decide +kernel)) (lc (fv_r (by decide +kernel) (by decide +kernel)) (lc (fv_i (by decide +kernel) (by decide +kernel) rfl) (lc (fv_r (by decide +kernel) (by decide +kernel)) (lc (fv_r (by decide +kernel) (by decide +kernel)) (lc (fv_i (by decide +kernel) (by decide +kernel) rfl) (lc (fv_i (by decide +kernel) (by decide +kernel) rfl) (lc (fv_i (by decide +kernel) (by decide +kernel) rfl) (lc (fv_i (by decide +kernel) (by decide +kernel) rfl) (lc (fv_r (by decide +kernel) (by decide +kernel)) (lc (fv_r (by decide +kernel) (by decide +kernel)) (lc (fv_r (by decide +kernel) (by decide +kernel)) (lc (fv_r (by decide +kernel) (by decide +kernel)) (lc (fv_r (by decide +kernel) (by decide +kernel)) (lc (fv_r (by decide +kernel) (by decide +kernel)) (lc (fv_r (by decide +kernel) (by decide +kernel)) (lc (fv_r (by decide +kernel) (by decide +kernel)) (lc (fv_r (by decide +kernel) (by decide +kernel)) (lc (fv_i (by decide +kernel) (by decide +kernel) rfl) (lc (fv_i (by decide +kernel) (by decide +kernel) rfl) (lc (fv_i (by decide +kernel) (by decide +kernel) rfl) (lc (fv_r (by decide +kernel) (by decide +kernel)) (lc (fv_r (by decide +kernel) (by decide +kernel)) (lc (fv_r (by decide +kernel) (by decide +kernel)) (lc (fv_r (by decide +kernel) (by decide +kernel)) (rfl))))))))))))))))))))))))))
theorem en_65 (G : gG) : entE G M0 65 = .inl (G.2.2 0, 418, .inl (upd (upd (fun _ => 0) 8 1) 4 (-1))) := by
  rw [ent_int G M0 (k := 65) (n := 418) (z := 0) (by decide +kernel)]
  rfl
theorem en_66 (G : gG) : entE G M0 66 = .inl (G.2.2 0, 418, .inl (fun _ => 0)) := by
  rw [ent_int G M0 (k := 66) (n := 418) (z := 0) (by decide +kernel)]
  rfl
theorem en_67 (G : gG) : entE G M0 67 = .inl (G.2.2 0, 7, .inl (fun _ => 0)) := by
  rw [ent_int G M0 (k := 67) (n := 7) (z := 0) (by decide +kernel)]
  rfl
theorem en_68 (G : gG) : entE G M0 68 = .inl (G.2.2 0, 800, .inl (fun _ => 0)) := by
  rw [ent_int G M0 (k := 68) (n := 800) (z := 0) (by decide +kernel)]
  rfl
theorem en_69 (G : gG) : entE G M0 69 = .inl (G.2.2 0, 124, .inl (fun _ => 0)) := by
  rw [ent_int G M0 (k := 69) (n := 124) (z := 0) (by decide +kernel)]
  rfl
theorem en_70 (G : gG) : entE G M0 70 = .inl (G.2.2 0, 128, .inl (fun _ => 0)) := by
  rw [ent_int G M0 (k := 70) (n := 128) (z := 0) (by decide +kernel)]
  rfl
theorem en_71 (G : gG) : entE G M0 71 = .inl (G.2.2 0, 64, .inl (fun _ => 0)) := by
  rw [ent_int G M0 (k := 71) (n := 64) (z := 0) (by decide +kernel)]
  rfl
theorem en_72 (G : gG) : entE G M0 72 = .inl (G.2.2 0, 64, .inl (fun _ => 0)) := by
  rw [ent_int G M0 (k := 72) (n := 64) (z := 0) (by decide +kernel)]
  rfl
theorem en_73 (G : gG) : entE G M0 73 = .inl (G.2.2 0, 8, .inl (fun _ => 0)) := by
  rw [ent_int G M0 (k := 73) (n := 8) (z := 0) (by decide +kernel)]
  rfl
theorem en_74 (G : gG) : entE G M0 74 = .inl (G.2.2 1, 64, .inr (.inl (fun _ => 0))) := by
  rw [ent_long G M0 (k := 74) (n := 64) (z := 0) (by decide +kernel)]
  rfl
theorem en_75 (G : gG) : entE G M0 75 = .inl (G.2.2 1, 64, .inr (.inl (fun _ => 0))) := by
  rw [ent_long G M0 (k := 75) (n := 64) (z := 0) (by decide +kernel)]
  rfl
theorem en_76 (G : gG) : entE G M0 76 = .inl (G.2.2 0, 10, .inl (fun _ => 0)) := by
  rw [ent_int G M0 (k := 76) (n := 10) (z := 0) (by decide +kernel)]
  rfl
theorem en_77 (G : gG) : entE G M0 77 = .inl (G.2.2 0, 30, .inl (fun _ => 0)) := by
  rw [ent_int G M0 (k := 77) (n := 30) (z := 0) (by decide +kernel)]
  rfl
theorem en_78 (G : gG) : entE G M0 78 = .inl (G.2.2 0, 4, .inl (fun _ => 0)) := by
  rw [ent_int G M0 (k := 78) (n := 4) (z := 0) (by decide +kernel)]
  rfl
theorem en_79 (G : gG) : entE G M0 79 = .inl (G.2.2 0, 4, .inl (fun _ => 0)) := by
  rw [ent_int G M0 (k := 79) (n := 4) (z := 0) (by decide +kernel)]
  rfl
theorem en_80 (G : gG) : entE G M0 80 = .inl (G.2.2 0, 96, .inl (fun _ => 0)) := by
  rw [ent_int G M0 (k := 80) (n := 96) (z := 0) (by decide +kernel)]
  rfl
theorem en_81 (G : gG) : entE G M0 81 = .inl (G.2.2 0, 24, .inl (fun _ => 0)) := by
  rw [ent_int G M0 (k := 81) (n := 24) (z := 0) (by decide +kernel)]
  rfl
def wsC (D : va_G) (t : gT) (aA aB b q8 q9 : Nat) (aK aV : Nat → Nat) (o8 : Nat → Nat) (b0 : Nat → Nat) (b1 : Nat → Nat) (b2 : Nat → Nat) (b3 : Nat → Nat) (b4 : Nat → Nat) (b5 : Nat → Nat) (b6 : Nat → Nat) (b7 : Nat → Nat) (b8 : Nat → Nat) (b9 : Nat → Nat) (b10 : Nat → Nat) (b11 : Nat → Nat) (b12 : Nat → Nat) (b13 : Nat → Nat) (b14 : Nat → Nat) (b15 : Nat → Nat) (b16 : Nat → Nat) (b17 : Nat → Nat) (o9 : Nat → Nat) : va_W := [(q8, .inr (8, [.ref (o8 0), .ref (o8 1), .ref (o8 2), .ref (o8 3), .ref (o8 4), .ref (o8 5), .int 0])), ((o8 0), .inr (7, [.ref (b0 0), .ref (b0 1), .ref (b0 2), .ref (b0 3), .ref (b0 4), .ref (b0 5), .int 0, .ref (b0 6), .int 0, .int 0, .int 1, .int 0, .int 0, .ref (b0 7)])), ((o8 1), .inr (7, [.ref (b6 0), .ref (b6 1), .ref (b6 2), .ref (b6 3), .ref (b6 4), .ref (b6 5), .int 0, .ref (b6 6), .int 0, .int 0, .int 1, .int 0, .int 0, .ref (b6 7)])), ((o8 2), .inr (4, [.ref (b12 0), .ref (b12 1), .int 0, .int 0, .int 0, .ref (aK 0)])), ((o8 3), .inr (0, [.ref (b13 0), .int 0, .int 0, .int 0, .int 0, .int 0])), ((o8 4), .inl (t.2.2, 4, .inr (.inr (.inr (.inr (va_up (va_up (va_up (va_up (fun _ => none) 0 (some ((o8 6)))) 1 (some ((o8 7)))) 2 (some ((o8 8)))) 3 (some ((o8 9))))))))), ar t (o8 5) 7, ((o8 6), .inr (5, [.ref (b14 0), .int 0, .int 0])), ((o8 7), .inr (5, [.ref (b15 0), .int 0, .int 0])), ((o8 8), .inr (5, [.ref (b16 0), .int 0, .int 0])), ((o8 9), .inr (5, [.ref (b17 0), .int 0, .int 0])), ar t (b14 0) 24, ar t (b15 0) 24, ar t (b16 0) 24, ar t (b17 0) 24, ((b0 0), .inr (6, [.ref (b1 0), .ref (b1 1), .ref (b1 2), .ref (b1 3), .int 0])), ar t (b1 0) 6, ar t (b1 1) 6, ar t (b1 2) 6, ar t (b1 3) 6, ((b0 1), .inr (3, [.ref (b2 0), .int 0])), ar t (b2 0) 40, ((b0 2), .inr (2, [.ref (b3 0), .ref (b3 1), .int 0, .ref (b3 2), .ref (b3 3), .ref (b3 4), .ref (b3 5)])), ar t (b3 0) 8, ar t (b3 1) 8, ar t (b3 2) 8, arL t (b3 3) 8, ar t (b3 4) 8, arL t (b3 5) 8, ((b0 3), .inr (1, [.ref (b4 0), .ref (b4 1), .int 0, .int 0])), ar t (b4 0) 60, ar t (b4 1) 60, ((b0 4), .inr (1, [.ref (b5 0), .ref (b5 1), .int 0, .int 0])), ar t (b5 0) 60, ar t (b5 1) 60, ar t (b0 5) 60, ar t (b0 6) 24, ar t (b0 7) 10, ((b6 0), .inr (6, [.ref (b7 0), .ref (b7 1), .ref (b7 2), .ref (b7 3), .int 0])), ar t (b7 0) 6, ar t (b7 1) 6, ar t (b7 2) 6, ar t (b7 3) 6, ((b6 1), .inr (3, [.ref (b8 0), .int 0])), ar t (b8 0) 40, ((b6 2), .inr (2, [.ref (b9 0), .ref (b9 1), .int 0, .ref (b9 2), .ref (b9 3), .ref (b9 4), .ref (b9 5)])), ar t (b9 0) 8, ar t (b9 1) 8, ar t (b9 2) 8, arL t (b9 3) 8, ar t (b9 4) 8, arL t (b9 5) 8, ((b6 3), .inr (1, [.ref (b10 0), .ref (b10 1), .int 0, .int 0])), ar t (b10 0) 60, ar t (b10 1) 60, ((b6 4), .inr (1, [.ref (b11 0), .ref (b11 1), .int 0, .int 0])), ar t (b11 0) 60, ar t (b11 1) 60, ar t (b6 5) 60, ar t (b6 6) 24, ar t (b6 7) 10, ar t (b12 0) 60, ar t (b12 1) 60, ar t (b13 0) 30, (q9, .inr (9, [.ref (o9 0), .ref (o9 1), .int 0, .ref (o9 2), .ref (o9 3), .int 0, .int 0, .int 0, .int 0, .ref (o9 4), .ref (o9 5), .ref (o9 6), .ref (o9 7), .ref (o9 8), .ref (o9 9), .ref (o9 10), .ref (o9 11), .ref (o9 12), .int 0, .int 0, .int 0, .ref (o9 13), .ref (o9 14), .ref (o9 15), .ref (o9 16)])), ((o9 0), .inl (t.1, 418, .inl (upd (upd (fun _ => 0) 8 1) 4 (-1)))), ar t (o9 1) 418, ar t (o9 2) 7, ar t (o9 3) 800, ar t (o9 4) 124, ar t (o9 5) 128, ar t (o9 6) 64, ar t (o9 7) 64, ar t (o9 8) 8, arL t (o9 9) 64, arL t (o9 10) 64, ar t (o9 11) 10, ar t (o9 12) 30, ar t (o9 13) 4, ar t (o9 14) 4, ar t (o9 15) 96, ar t (o9 16) 24]
def wsN (D : va_G) (t : gT) (aA aB b q8 q9 : Nat) (aK aV : Nat → Nat) (o8 : Nat → Nat) (b0 : Nat → Nat) (b1 : Nat → Nat) (b2 : Nat → Nat) (b3 : Nat → Nat) (b4 : Nat → Nat) (b5 : Nat → Nat) (b6 : Nat → Nat) (b7 : Nat → Nat) (b8 : Nat → Nat) (b9 : Nat → Nat) (b10 : Nat → Nat) (b11 : Nat → Nat) (b12 : Nat → Nat) (b13 : Nat → Nat) (b14 : Nat → Nat) (b15 : Nat → Nat) (b16 : Nat → Nat) (b17 : Nat → Nat) (o9 : Nat → Nat) : va_W := [(q8, .inr (8, [.ref (o8 0), .ref (o8 1), .ref (o8 2), .ref (o8 3), .ref (o8 4), .ref (o8 5), .int 0])), ((o8 0), .inr (7, [.ref (b0 0), .ref (b0 1), .ref (b0 2), .ref (b0 3), .ref (b0 4), .ref (b0 5), .int 0, .ref (b0 6), .int 0, .int 0, .int 1, .int 0, .int 0, .ref (b0 7)])), ((b0 0), .inr (6, [.ref (b1 0), .ref (b1 1), .ref (b1 2), .ref (b1 3), .int 0])), ar t (b1 0) 6, ar t (b1 1) 6, ar t (b1 2) 6, ar t (b1 3) 6, ((b0 1), .inr (3, [.ref (b2 0), .int 0])), ar t (b2 0) 40, ((b0 2), .inr (2, [.ref (b3 0), .ref (b3 1), .int 0, .ref (b3 2), .ref (b3 3), .ref (b3 4), .ref (b3 5)])), ar t (b3 0) 8, ar t (b3 1) 8, ar t (b3 2) 8, arL t (b3 3) 8, ar t (b3 4) 8, arL t (b3 5) 8, ((b0 3), .inr (1, [.ref (b4 0), .ref (b4 1), .int 0, .int 0])), ar t (b4 0) 60, ar t (b4 1) 60, ((b0 4), .inr (1, [.ref (b5 0), .ref (b5 1), .int 0, .int 0])), ar t (b5 0) 60, ar t (b5 1) 60, ar t (b0 5) 60, ar t (b0 6) 24, ar t (b0 7) 10, ((o8 1), .inr (7, [.ref (b6 0), .ref (b6 1), .ref (b6 2), .ref (b6 3), .ref (b6 4), .ref (b6 5), .int 0, .ref (b6 6), .int 0, .int 0, .int 1, .int 0, .int 0, .ref (b6 7)])), ((b6 0), .inr (6, [.ref (b7 0), .ref (b7 1), .ref (b7 2), .ref (b7 3), .int 0])), ar t (b7 0) 6, ar t (b7 1) 6, ar t (b7 2) 6, ar t (b7 3) 6, ((b6 1), .inr (3, [.ref (b8 0), .int 0])), ar t (b8 0) 40, ((b6 2), .inr (2, [.ref (b9 0), .ref (b9 1), .int 0, .ref (b9 2), .ref (b9 3), .ref (b9 4), .ref (b9 5)])), ar t (b9 0) 8, ar t (b9 1) 8, ar t (b9 2) 8, arL t (b9 3) 8, ar t (b9 4) 8, arL t (b9 5) 8, ((b6 3), .inr (1, [.ref (b10 0), .ref (b10 1), .int 0, .int 0])), ar t (b10 0) 60, ar t (b10 1) 60, ((b6 4), .inr (1, [.ref (b11 0), .ref (b11 1), .int 0, .int 0])), ar t (b11 0) 60, ar t (b11 1) 60, ar t (b6 5) 60, ar t (b6 6) 24, ar t (b6 7) 10, ((o8 2), .inr (4, [.ref (b12 0), .ref (b12 1), .int 0, .int 0, .int 0, .ref (aK 0)])), ar t (b12 0) 60, ar t (b12 1) 60, ((o8 3), .inr (0, [.ref (b13 0), .int 0, .int 0, .int 0, .int 0, .int 0])), ar t (b13 0) 30, ((o8 4), .inl (t.2.2, 4, .inr (.inr (.inr (.inr (va_up (va_up (va_up (va_up (fun _ => none) 0 (some ((o8 6)))) 1 (some ((o8 7)))) 2 (some ((o8 8)))) 3 (some ((o8 9))))))))), ar t (o8 5) 7, ((o8 6), .inr (5, [.ref (b14 0), .int 0, .int 0])), ar t (b14 0) 24, ((o8 7), .inr (5, [.ref (b15 0), .int 0, .int 0])), ar t (b15 0) 24, ((o8 8), .inr (5, [.ref (b16 0), .int 0, .int 0])), ar t (b16 0) 24, ((o8 9), .inr (5, [.ref (b17 0), .int 0, .int 0])), ar t (b17 0) 24, (q9, .inr (9, [.ref (o9 0), .ref (o9 1), .int 0, .ref (o9 2), .ref (o9 3), .int 0, .int 0, .int 0, .int 0, .ref (o9 4), .ref (o9 5), .ref (o9 6), .ref (o9 7), .ref (o9 8), .ref (o9 9), .ref (o9 10), .ref (o9 11), .ref (o9 12), .int 0, .int 0, .int 0, .ref (o9 13), .ref (o9 14), .ref (o9 15), .ref (o9 16)])), ((o9 0), .inl (t.1, 418, .inl (upd (upd (fun _ => 0) 8 1) 4 (-1)))), ar t (o9 1) 418, ar t (o9 2) 7, ar t (o9 3) 800, ar t (o9 4) 124, ar t (o9 5) 128, ar t (o9 6) 64, ar t (o9 7) 64, ar t (o9 8) 8, arL t (o9 9) 64, arL t (o9 10) 64, ar t (o9 11) 10, ar t (o9 12) 30, ar t (o9 13) 4, ar t (o9 14) 4, ar t (o9 15) 96, ar t (o9 16) 24]
set_option maxRecDepth 100000 in
set_option maxHeartbeats 4000000 in
theorem wsG_ok (D : va_G) (t : gT) (aA aB b q8 q9 : Nat) (aK aV : Nat → Nat) (o8 : Nat → Nat) (b0 : Nat → Nat) (b1 : Nat → Nat) (b2 : Nat → Nat) (b3 : Nat → Nat) (b4 : Nat → Nat) (b5 : Nat → Nat) (b6 : Nat → Nat) (b7 : Nat → Nat) (b8 : Nat → Nat) (b9 : Nat → Nat) (b10 : Nat → Nat) (b11 : Nat → Nat) (b12 : Nat → Nat) (b13 : Nat → Nat) (b14 : Nat → Nat) (b15 : Nat → Nat) (b16 : Nat → Nat) (b17 : Nat → Nat) (o9 : Nat → Nat) : wsG (GG D t aA aB b q8 q9 aK aV o8 b0 b1 b2 b3 b4 b5 b6 b7 b8 b9 b10 b11 b12 b13 b14 b15 b16 b17 o9) M0 = wsC D t aA aB b q8 q9 aK aV o8 b0 b1 b2 b3 b4 b5 b6 b7 b8 b9 b10 b11 b12 b13 b14 b15 b16 b17 o9 := by
  rw [wsG, show List.range 82 = [0, 1, 2, 3, 4, 5, 6, 7, 8, 9, 10, 11, 12, 13, 14, 15, 16, 17, 18, 19, 20, 21, 22, 23, 24, 25, 26, 27, 28, 29, 30, 31, 32, 33, 34, 35, 36, 37, 38, 39, 40, 41, 42, 43, 44, 45, 46, 47, 48, 49, 50, 51, 52, 53, 54, 55, 56, 57, 58, 59, 60, 61, 62, 63, 64, 65, 66, 67, 68, 69, 70, 71, 72, 73, 74, 75, 76, 77, 78, 79, 80, 81] from by decide +kernel]
  exact lc (pr_eq rfl (en_0 _)) (lc (pr_eq rfl (en_1 _)) (lc (pr_eq rfl (en_2 _)) (lc (pr_eq rfl (en_3 _)) (lc (pr_eq rfl (en_4 _)) (lc (pr_eq rfl (en_5 _)) (lc (pr_eq rfl (en_6 _)) (lc (pr_eq rfl (en_7 _)) (lc (pr_eq rfl (en_8 _)) (lc (pr_eq rfl (en_9 _)) (lc (pr_eq rfl (en_10 _)) (lc (pr_eq rfl (en_11 _)) (lc (pr_eq rfl (en_12 _)) (lc (pr_eq rfl (en_13 _)) (lc (pr_eq rfl (en_14 _)) (lc (pr_eq rfl (en_15 _)) (lc (pr_eq rfl (en_16 _)) (lc (pr_eq rfl (en_17 _)) (lc (pr_eq rfl (en_18 _)) (lc (pr_eq rfl (en_19 _)) (lc (pr_eq rfl (en_20 _)) (lc (pr_eq rfl (en_21 _)) (lc (pr_eq rfl (en_22 _)) (lc (pr_eq rfl (en_23 _)) (lc (pr_eq rfl (en_24 _)) (lc (pr_eq rfl (en_25 _)) (lc (pr_eq rfl (en_26 _)) (lc (pr_eq rfl (en_27 _)) (lc (pr_eq rfl (en_28 _)) (lc (pr_eq rfl (en_29 _)) (lc (pr_eq rfl (en_30 _)) (lc (pr_eq rfl (en_31 _)) (lc (pr_eq rfl (en_32 _)) (lc (pr_eq rfl (en_33 _)) (lc (pr_eq rfl (en_34 _)) (lc (pr_eq rfl (en_35 _)) (lc (pr_eq rfl (en_36 _)) (lc (pr_eq rfl (en_37 _)) (lc (pr_eq rfl (en_38 _)) (lc (pr_eq rfl (en_39 _)) (lc (pr_eq rfl (en_40 _)) (lc (pr_eq rfl (en_41 _)) (lc (pr_eq rfl (en_42 _)) (lc (pr_eq rfl (en_43 _)) (lc (pr_eq rfl (en_44 _)) (lc (pr_eq rfl (en_45 _)) (lc (pr_eq rfl (en_46 _)) (lc (pr_eq rfl (en_47 _)) (lc (pr_eq rfl (en_48 _)) (lc (pr_eq rfl (en_49 _)) (lc (pr_eq rfl (en_50 _)) (lc (pr_eq rfl (en_51 _)) (lc (pr_eq rfl (en_52 _)) (lc (pr_eq rfl (en_53 _)) (lc (pr_eq rfl (en_54 _)) (lc (pr_eq rfl (en_55 _)) (lc (pr_eq rfl (en_56 _)) (lc (pr_eq rfl (en_57 _)) (lc (pr_eq rfl (en_58 _)) (lc (pr_eq rfl (en_59 _)) (lc (pr_eq rfl (en_60 _)) (lc (pr_eq rfl (en_61 _)) (lc (pr_eq rfl (en_62 _)) (lc (pr_eq rfl (en_63 _)) (lc (pr_eq rfl (en_64 _)) (lc (pr_eq rfl (en_65 _)) (lc (pr_eq rfl (en_66 _)) (lc (pr_eq rfl (en_67 _)) (lc (pr_eq rfl (en_68 _)) (lc (pr_eq rfl (en_69 _)) (lc (pr_eq rfl (en_70 _)) (lc (pr_eq rfl (en_71 _)) (lc (pr_eq rfl (en_72 _)) (lc (pr_eq rfl (en_73 _)) (lc (pr_eq rfl (en_74 _)) (lc (pr_eq rfl (en_75 _)) (lc (pr_eq rfl (en_76 _)) (lc (pr_eq rfl (en_77 _)) (lc (pr_eq rfl (en_78 _)) (lc (pr_eq rfl (en_79 _)) (lc (pr_eq rfl (en_80 _)) (lc (pr_eq rfl (en_81 _)) (rfl))))))))))))))))))))))))))))))))))))))))))))))))))))))))))))))))))))))))))))))))))
set_option maxRecDepth 100000 in
set_option maxHeartbeats 4000000 in
theorem wsN_ok (D : va_G) (t : gT) (aA aB b q8 q9 : Nat) (aK aV : Nat → Nat) (o8 : Nat → Nat) (b0 : Nat → Nat) (b1 : Nat → Nat) (b2 : Nat → Nat) (b3 : Nat → Nat) (b4 : Nat → Nat) (b5 : Nat → Nat) (b6 : Nat → Nat) (b7 : Nat → Nat) (b8 : Nat → Nat) (b9 : Nat → Nat) (b10 : Nat → Nat) (b11 : Nat → Nat) (b12 : Nat → Nat) (b13 : Nat → Nat) (b14 : Nat → Nat) (b15 : Nat → Nat) (b16 : Nat → Nat) (b17 : Nat → Nat) (o9 : Nat → Nat) : ([] ++ wX8 t (aK 0) q8 o8 b0 b1 b2 b3 b4 b5 b6 b7 b8 b9 b10 b11 b12 b13 b14 b15 b16 b17) ++ wX9 t (aK 0) q9 o9 = wsN D t aA aB b q8 q9 aK aV o8 b0 b1 b2 b3 b4 b5 b6 b7 b8 b9 b10 b11 b12 b13 b14 b15 b16 b17 o9 := by
  simp only [wX8, wX9, wX7, wX6, wX5, wX4, wX3, wX2, wX1, wX0, wsN, List.nil_append, List.cons_append]
set_option maxRecDepth 100000 in
set_option maxHeartbeats 4000000 in
theorem wsP_ok (D : va_G) (t : gT) (aA aB b q8 q9 : Nat) (aK aV : Nat → Nat) (o8 : Nat → Nat) (b0 : Nat → Nat) (b1 : Nat → Nat) (b2 : Nat → Nat) (b3 : Nat → Nat) (b4 : Nat → Nat) (b5 : Nat → Nat) (b6 : Nat → Nat) (b7 : Nat → Nat) (b8 : Nat → Nat) (b9 : Nat → Nat) (b10 : Nat → Nat) (b11 : Nat → Nat) (b12 : Nat → Nat) (b13 : Nat → Nat) (b14 : Nat → Nat) (b15 : Nat → Nat) (b16 : Nat → Nat) (b17 : Nat → Nat) (o9 : Nat → Nat) : prm.map (fun i => (wsN D t aA aB b q8 q9 aK aV o8 b0 b1 b2 b3 b4 b5 b6 b7 b8 b9 b10 b11 b12 b13 b14 b15 b16 b17 o9)[i]?) = (wsC D t aA aB b q8 q9 aK aV o8 b0 b1 b2 b3 b4 b5 b6 b7 b8 b9 b10 b11 b12 b13 b14 b15 b16 b17 o9).map some := by
  rfl
theorem prm_ok (D : va_G) (t : gT) (aA aB b q8 q9 : Nat) (aK aV : Nat → Nat) (o8 : Nat → Nat) (b0 : Nat → Nat) (b1 : Nat → Nat) (b2 : Nat → Nat) (b3 : Nat → Nat) (b4 : Nat → Nat) (b5 : Nat → Nat) (b6 : Nat → Nat) (b7 : Nat → Nat) (b8 : Nat → Nat) (b9 : Nat → Nat) (b10 : Nat → Nat) (b11 : Nat → Nat) (b12 : Nat → Nat) (b13 : Nat → Nat) (b14 : Nat → Nat) (b15 : Nat → Nat) (b16 : Nat → Nat) (b17 : Nat → Nat) (o9 : Nat → Nat) : prm.map (fun i => (([] ++ wX8 t (aK 0) q8 o8 b0 b1 b2 b3 b4 b5 b6 b7 b8 b9 b10 b11 b12 b13 b14 b15 b16 b17) ++ wX9 t (aK 0) q9 o9)[i]?) = (wsG (GG D t aA aB b q8 q9 aK aV o8 b0 b1 b2 b3 b4 b5 b6 b7 b8 b9 b10 b11 b12 b13 b14 b15 b16 b17 o9) M0).map some := by
  rw [wsN_ok D t aA aB b q8 q9 aK aV o8 b0 b1 b2 b3 b4 b5 b6 b7 b8 b9 b10 b11 b12 b13 b14 b15 b16 b17 o9, wsG_ok D t aA aB b q8 q9 aK aV o8 b0 b1 b2 b3 b4 b5 b6 b7 b8 b9 b10 b11 b12 b13 b14 b15 b16 b17 o9]
  exact wsP_ok D t aA aB b q8 q9 aK aV o8 b0 b1 b2 b3 b4 b5 b6 b7 b8 b9 b10 b11 b12 b13 b14 b15 b16 b17 o9
