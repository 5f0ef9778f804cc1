/-! ===== THE START ===== -/
theorem mk_X8_init : MOK mX8_init 0 := ⟨(tbl_t (List.mem_of_getElem? (i := 23) (by decide +kernel)) rfl), (tbl_t (List.mem_of_getElem? (i := 1) (by decide +kernel)) rfl), ⟨by decide +kernel, by decide +kernel, by decide +kernel⟩, by decide, by decide +kernel⟩
theorem im_X8_init : Cond.instanceMethod yX8_init ∈ tblG := (tbl_t (List.mem_of_getElem? (i := 22) (by decide +kernel)) rfl)
theorem mk_X9_init : MOK mX9_init 0 := ⟨(tbl_t (List.mem_of_getElem? (i := 873) (by decide +kernel)) rfl), (tbl_t (List.mem_of_getElem? (i := 10) (by decide +kernel)) rfl), ⟨by decide +kernel, by decide +kernel, by decide +kernel⟩, by decide, by decide +kernel⟩
theorem im_X9_init : Cond.instanceMethod yX9_init ∈ tblG := (tbl_t (List.mem_of_getElem? (i := 872) (by decide +kernel)) rfl)
theorem nk_L_7 : NCK RL 7 8 7 tyX8 := ⟨RX8, TX8, rfl, ix_X8, tyX8_ok, (tbl_t (List.mem_of_getElem? (i := 19) (by decide +kernel)) rfl), (tbl_t (List.mem_of_getElem? (i := 20) (by decide +kernel)) rfl), (tbl_t (List.mem_of_getElem? (i := 1) (by decide +kernel)) rfl)⟩
theorem nk_L_10 : NCK RL 10 9 25 tyX9 := ⟨RX9, TX9, rfl, ix_X9, tyX9_ok, (tbl_t (List.mem_of_getElem? (i := 869) (by decide +kernel)) rfl), (tbl_t (List.mem_of_getElem? (i := 870) (by decide +kernel)) rfl), (tbl_t (List.mem_of_getElem? (i := 10) (by decide +kernel)) rfl)⟩
theorem ln_L_9 : LOK RL 9 mX8_init := .inl (tbl_t (List.mem_of_getElem? (i := 21) (by decide +kernel)) rfl)
theorem ln_L_12 : LOK RL 12 mX9_init := .inl (tbl_t (List.mem_of_getElem? (i := 871) (by decide +kernel)) rfl)
def adL (q8 q9 : Nat) (o8 : Nat → Nat) (b0 : Nat → Nat) (b1 : Nat → Nat) (b2 : Nat → Nat) (b3 : Nat → Nat) (b4 : Nat → Nat) (b5 : Nat → Nat) (b6 : Nat → Nat) (b7 : Nat → Nat) (b8 : Nat → Nat) (b9 : Nat → Nat) (b10 : Nat → Nat) (b11 : Nat → Nat) (b12 : Nat → Nat) (b13 : Nat → Nat) (b14 : Nat → Nat) (b15 : Nat → Nat) (b16 : Nat → Nat) (b17 : Nat → Nat) (o9 : Nat → Nat) : List Nat := [q8, (o8 0), (o8 1), (o8 2), (o8 3), (o8 4), (o8 5), (o8 6), (o8 7), (o8 8), (o8 9), (b14 0), (b15 0), (b16 0), (b17 0), (b0 0), (b1 0), (b1 1), (b1 2), (b1 3), (b0 1), (b2 0), (b0 2), (b3 0), (b3 1), (b3 2), (b3 3), (b3 4), (b3 5), (b0 3), (b4 0), (b4 1), (b0 4), (b5 0), (b5 1), (b0 5), (b0 6), (b0 7), (b6 0), (b7 0), (b7 1), (b7 2), (b7 3), (b6 1), (b8 0), (b6 2), (b9 0), (b9 1), (b9 2), (b9 3), (b9 4), (b9 5), (b6 3), (b10 0), (b10 1), (b6 4), (b11 0), (b11 1), (b6 5), (b6 6), (b6 7), (b12 0), (b12 1), (b13 0), q9, (o9 0), (o9 1), (o9 2), (o9 3), (o9 4), (o9 5), (o9 6), (o9 7), (o9 8), (o9 9), (o9 10), (o9 11), (o9 12), (o9 13), (o9 14), (o9 15), (o9 16)]
def prm : List Nat := [0, 1, 25, 49, 52, 54, 55, 56, 58, 60, 62, 57, 59, 61, 63, 2, 3, 4, 5, 6, 7, 8, 9, 10, 11, 12, 13, 14, 15, 16, 17, 18, 19, 20, 21, 22, 23, 24, 26, 27, 28, 29, 30, 31, 32, 33, 34, 35, 36, 37, 38, 39, 40, 41, 42, 43, 44, 45, 46, 47, 48, 50, 51, 53, 64, 65, 66, 67, 68, 69, 70, 71, 72, 73, 74, 75, 76, 77, 78, 79, 80, 81]
theorem fQ_ok (f : Nat → Nat) : (fun j => (gr 5 j).map f) = va_up (va_up (va_up (va_up (fun _ => none) 0 (some (f 7))) 1 (some (f 8))) 2 (some (f 9))) 3 (some (f 10)) := by
  funext j
  match j with
  | 0 => rfl
  | 1 => rfl
  | 2 => rfl
  | 3 => rfl
  | n + 4 => simp [va_up]; rfl
set_option maxRecDepth 100000 in
set_option maxHeartbeats 8000000 in
theorem prm_ok (D : va_G) (t : gT) (aA aB b q8 q9 : Nat) (aK aV : Nat → Nat) (o8 : Nat → Nat) (b0 : Nat → Nat) (b1 : Nat → Nat) (b2 : Nat → Nat) (b3 : Nat → Nat) (b4 : Nat → Nat) (b5 : Nat → Nat) (b6 : Nat → Nat) (b7 : Nat → Nat) (b8 : Nat → Nat) (b9 : Nat → Nat) (b10 : Nat → Nat) (b11 : Nat → Nat) (b12 : Nat → Nat) (b13 : Nat → Nat) (b14 : Nat → Nat) (b15 : Nat → Nat) (b16 : Nat → Nat) (b17 : Nat → Nat) (o9 : Nat → Nat) : prm.map (fun i => (([] ++ wX8 t (aK 0) q8 o8 b0 b1 b2 b3 b4 b5 b6 b7 b8 b9 b10 b11 b12 b13 b14 b15 b16 b17) ++ wX9 t (aK 0) q9 o9)[i]?) = (wsG (D, adrG (adL q8 q9 o8 b0 b1 b2 b3 b4 b5 b6 b7 b8 b9 b10 b11 b12 b13 b14 b15 b16 b17 o9) aA aB b aK aV, fun k => [t.1, t.2.1, t.2.2].getD k 0) M0).map some := by
  have e5 : entE (D, adrG (adL q8 q9 o8 b0 b1 b2 b3 b4 b5 b6 b7 b8 b9 b10 b11 b12 b13 b14 b15 b16 b17 o9) aA aB b aK aV, fun k => [t.1, t.2.1, t.2.2].getD k 0) M0 5 = .inl (t.2.2, 4, .inr (.inr (.inr (.inr (va_up (va_up (va_up (va_up (fun _ => none) 0 (some (o8 6))) 1 (some (o8 7))) 2 (some (o8 8))) 3 (some (o8 9))))))) := by
    show Sum.inl (t.2.2, 4, Sum.inr (Sum.inr (Sum.inr (Sum.inr (fun j => (gr 5 j).map (adrG (adL q8 q9 o8 b0 b1 b2 b3 b4 b5 b6 b7 b8 b9 b10 b11 b12 b13 b14 b15 b16 b17 o9) aA aB b aK aV)))))) = _
    rw [fQ_ok]
    rfl
  apply List.ext_getElem?
  intro k
  rcases Nat.lt_or_ge k 82 with h | h
  · rw [List.getElem?_map, List.getElem?_map, ws_at _ _ h]
    revert h
    match k with
    | 0 => intro _; rfl
    | 1 => intro _; rfl
    | 2 => intro _; rfl
    | 3 => intro _; rfl
    | 4 => intro _; rfl
    | 5 => intro _; rw [e5]; rfl
    | 6 => intro _; rfl
    | 7 => intro _; rfl
    | 8 => intro _; rfl
    | 9 => intro _; rfl
    | 10 => intro _; rfl
    | 11 => intro _; rfl
    | 12 => intro _; rfl
    | 13 => intro _; rfl
    | 14 => intro _; rfl
    | 15 => intro _; rfl
    | 16 => intro _; rfl
    | 17 => intro _; rfl
    | 18 => intro _; rfl
    | 19 => intro _; rfl
    | 20 => intro _; rfl
    | 21 => intro _; rfl
    | 22 => intro _; rfl
    | 23 => intro _; rfl
    | 24 => intro _; rfl
    | 25 => intro _; rfl
    | 26 => intro _; rfl
    | 27 => intro _; rfl
    | 28 => intro _; rfl
    | 29 => intro _; rfl
    | 30 => intro _; rfl
    | 31 => intro _; rfl
    | 32 => intro _; rfl
    | 33 => intro _; rfl
    | 34 => intro _; rfl
    | 35 => intro _; rfl
    | 36 => intro _; rfl
    | 37 => intro _; rfl
    | 38 => intro _; rfl
    | 39 => intro _; rfl
    | 40 => intro _; rfl
    | 41 => intro _; rfl
    | 42 => intro _; rfl
    | 43 => intro _; rfl
    | 44 => intro _; rfl
    | 45 => intro _; rfl
    | 46 => intro _; rfl
    | 47 => intro _; rfl
    | 48 => intro _; rfl
    | 49 => intro _; rfl
    | 50 => intro _; rfl
    | 51 => intro _; rfl
    | 52 => intro _; rfl
    | 53 => intro _; rfl
    | 54 => intro _; rfl
    | 55 => intro _; rfl
    | 56 => intro _; rfl
    | 57 => intro _; rfl
    | 58 => intro _; rfl
    | 59 => intro _; rfl
    | 60 => intro _; rfl
    | 61 => intro _; rfl
    | 62 => intro _; rfl
    | 63 => intro _; rfl
    | 64 => intro _; rfl
    | 65 => intro _; rfl
    | 66 => intro _; rfl
    | 67 => intro _; rfl
    | 68 => intro _; rfl
    | 69 => intro _; rfl
    | 70 => intro _; rfl
    | 71 => intro _; rfl
    | 72 => intro _; rfl
    | 73 => intro _; rfl
    | 74 => intro _; rfl
    | 75 => intro _; rfl
    | 76 => intro _; rfl
    | 77 => intro _; rfl
    | 78 => intro _; rfl
    | 79 => intro _; rfl
    | 80 => intro _; rfl
    | 81 => intro _; rfl
    | n + 82 => intro h; omega
  · rw [List.getElem?_eq_none (by rw [List.length_map]; exact h), List.getElem?_eq_none (by rw [List.length_map, wsG, List.length_map, List.length_range]; exact h)]
