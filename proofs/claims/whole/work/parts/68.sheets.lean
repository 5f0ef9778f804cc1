/-! ===== sheets ===== -/
theorem disp4 {q : Nat} (hq : q < 4) (P : Nat → Prop) (h : P q) : vp_in (nI q) 4 ∧ (nI q = 0 → P 0) ∧ (nI q = 1 → P 1) ∧ (nI q = 2 → P 2) ∧ (nI q = 3 → P 3) := by
  refine ⟨vin_n hq (by decide), fun e => ?_, fun e => ?_, fun e => ?_, fun e => ?_⟩
  · rw [nI_inj (b := 0) (by omega) (by decide) e] at h; exact h
  · rw [nI_inj (b := 1) (by omega) (by decide) e] at h; exact h
  · rw [nI_inj (b := 2) (by omega) (by decide) e] at h; exact h
  · rw [nI_inj (b := 3) (by omega) (by decide) e] at h; exact h
theorem Inv_she {M M2 : Mem} (hI : Inv M) (ho : ∀ k, k ∉ [7, 8, 9, 10, 11, 12, 13, 14, 78, 79, 80, 81] → M2.1 k = M.1 k) (hS : SHE M2) : Inv M2 := by
  obtain ⟨i1, i2, i3, i4, i5⟩ := hI
  refine ⟨?_, IMG_frame (fun k hk => ho k (by intro e; revert e hk; unfold wc; simp only [List.mem_cons, List.not_mem_nil, or_false]; omega)) (by rw [ho 0 (by decide)]) (by rw [ho 64 (by decide)]) (ho 66 (by decide)) i2, fun k hk => by rw [ho 6 (by decide), ho 67 (by decide)]; exact i3 k hk, TRC_frame (by rw [ho 4 (by decide)]) (by rw [ho 64 (by decide)]) (ho 63 (by decide)) (ho 77 (by decide)) i4, hS⟩
  rw [ho 65 (by decide)]
  exact IW_frame (fun k hk => ho k (by intro e; revert e hk; unfold wc; simp only [List.mem_cons, List.not_mem_nil, or_false]; omega)) (fun _ _ => rfl) i1
/-- Arrays.fill -/
theorem fill_L {xs : gX} {d q : Nat} (hq : q < 4) {v1 v2 v3 : Int32} {M : Mem} {Q : Mem → Prop} (h : if v2 < v3 then (vp_in v2 24 ∧ GW xs d mJ7_fill_53178 5 [(0, .ref (11 + q)), (1, .int v1), (2, .int (v2 + 1)), (3, .int v3)] [] (mw M (11 + q) v2.toNatClampNeg v1) (QV Q)) else Q M) : GW xs d mJ7_fill_53178 5 [(0, .ref (11 + q)), (1, .int v1), (2, .int v2), (3, .int v3)] [] M (QV Q) := by
  rcases q4 hq with rfl | rfl | rfl | rfl
  · exact wp_J7_fill_53178_11_L5 xs d v1 v2 v3 M Q h
  · exact wp_J7_fill_53178_12_L5 xs d v1 v2 v3 M Q h
  · exact wp_J7_fill_53178_13_L5 xs d v1 v2 v3 M Q h
  · exact wp_J7_fill_53178_14_L5 xs d v1 v2 v3 M Q h
theorem fill_ok {xs : gX} {d q : Nat} (hq : q < 4) {x : Int32} {M : Mem} {Q : Mem → Prop} (hQ : ∀ f : Nat → Int32, (∀ i, i < 24 → f i = x) → Q (mwA M (11 + q) f)) : MV xs d mJ7_fill_53178 [.ref (11 + q), .int x] M Q := by
  have key : ∀ m i f, i + m = 24 → (∀ j, j < i → f j = x) → GW xs d mJ7_fill_53178 5 [(0, .ref (11 + q)), (1, .int x), (2, .int (nI i)), (3, .int 24)] [] (mwA M (11 + q) f) (QV Q) := by
    intro m
    induction m with
    | zero =>
      intro i f hi hf
      refine fill_L hq (ite_n (nI_nltI (b := 24) (by omega) (by decide) (by omega)) (hQ f (fun j hj => hf j (by omega))))
    | succ m ih =>
      intro i f hi hf
      refine fill_L hq (ite_p (nI_ltI' (b := 24) (by omega) (by decide) (by omega)) ⟨vin_n (by omega) (by decide), ?_⟩)
      rw [nI_1, nn_at (n := i) (by omega), mw_mwA]
      refine ih (i + 1) _ (by omega) (fun j hj => ?_)
      by_cases e : j = i
      · subst e; rw [upd_at]
      · rw [upd_ne _ _ e]; exact hf j (by omega)
  have k0 := key 24 0 (M.1 (11 + q)) (by omega) (fun j hj => absurd hj (Nat.not_lt_zero j))
  rw [mwA_self] at k0
  rcases q4 hq with rfl | rfl | rfl | rfl
  · exact wp_J7_fill_53178_11 xs d x M Q k0
  · exact wp_J7_fill_53178_12 xs d x M Q k0
  · exact wp_J7_fill_53178_13 xs d x M Q k0
  · exact wp_J7_fill_53178_14 xs d x M Q k0
theorem shD {xs : gX} {d q : Nat} {M : Mem} {K : Mem → Prop} {b n : Int32} (hq : q < 4) (h : ∀ f : Nat → Int32, (∀ i, i < 24 → f i = 0) → K (mwA (mw (mw M (7 + q) 1 b) (7 + q) 2 n) (11 + q) f)) : vp_in (nI q) 4 ∧ (nI q = 0 → MV xs d mJ7_fill_53178 [.ref 11, .int 0] (mw (mw M 7 1 b) 7 2 n) K) ∧ (nI q = 1 → MV xs d mJ7_fill_53178 [.ref 12, .int 0] (mw (mw M 8 1 b) 8 2 n) K) ∧ (nI q = 2 → MV xs d mJ7_fill_53178 [.ref 13, .int 0] (mw (mw M 9 1 b) 9 2 n) K) ∧ (nI q = 3 → MV xs d mJ7_fill_53178 [.ref 14, .int 0] (mw (mw M 10 1 b) 10 2 n) K) :=
  disp4 hq (fun q => MV xs d mJ7_fill_53178 [.ref (11 + q), .int 0] (mw (mw M (7 + q) 1 b) (7 + q) 2 n) K) (fill_ok hq h)
theorem s24 (q i : Nat) : (24 * nI q) + nI i = nI (24 * q + i) := by simp only [i_lit, nI_mul, nI_add]
theorem P_sheet {xs : gX} {d : Nat} {M : Mem} (hI : Inv M) (a b c : Int32) : PB xs d mX8_sheet mX9_sheet [.int a, .int b, .int c] M := by
  have hS := hI.2.2.2.2
  rcases arg3 a 4 (by decide) with h | ⟨h0, h1⟩ | ⟨ja, hja, rfl⟩
  · apply wp_X8_sheet_0
    refine (ite_p h ?_)
    apply wp_X9_sheet_64
    exact (ite_p h ⟨rfl, Inv_err hI 1⟩)
  · apply wp_X8_sheet_0
    refine (ite_n h0 (ite_n h1 ?_))
    apply wp_X9_sheet_64
    exact (ite_n h0 (ite_p (ar_out (n := 3) rfl rfl (by decide) h1) ⟨rfl, Inv_err hI 1⟩))
  obtain ⟨a1, a2, a3⟩ := ar_in (n := 3) (x := 4) (y := 3) rfl rfl hja (by decide)
  -- both sides take it
  have good : ∀ (n : Int32) (f : Nat → Int32), (b = 0 ∨ b = 8 ∨ b = 16 ∨ b = 32) → vp_in n 25 → (b = 0 → n = 0) → (∀ i, i < 24 → f i = 0) → GW xs (d + 7) mX9_sheet 90 [(0, .ref 64), (1, .int (nI ja)), (2, .int b), (3, .int c), (4, .int 0)] [] (mw (mw (mwA (mw (mw M (7 + ja) 1 b) (7 + ja) 2 n) (11 + ja) f) 78 ja b) 79 ja n) (QI (fun r2 M2 => (1 : Int32) = r2 ∧ Inv M2)) := by
    intro n f hb hn hbn hf
    obtain ⟨Mb, hMb⟩ : ∃ Mb, Mb = mw (mw (mwA (mw (mw M (7 + ja) 1 b) (7 + ja) 2 n) (11 + ja) f) 78 ja b) 79 ja n := ⟨_, rfl⟩
    rw [← hMb]
    have e78 : Mb.1 78 = upd (M.1 78) ja b := by rw [hMb, mw_ne _ _ _ (by decide), mw_at, mwA_ne _ _ (by omega), mw_ne _ _ _ (by omega), mw_ne _ _ _ (by omega)]
    have e79 : Mb.1 79 = upd (M.1 79) ja n := by rw [hMb, mw_at, mw_ne _ _ _ (by decide), mwA_ne _ _ (by omega), mw_ne _ _ _ (by omega), mw_ne _ _ _ (by omega)]
    have e7 : Mb.1 (7 + ja) = upd (upd (M.1 (7 + ja)) 1 b) 2 n := by rw [hMb, mw_ne _ _ _ (by omega), mw_ne _ _ _ (by omega), mwA_ne _ _ (by omega), mw_at, mw_at]
    have e11 : Mb.1 (11 + ja) = f := by rw [hMb, mw_ne _ _ _ (by omega), mw_ne _ _ _ (by omega), mwA_at]
    have eo : ∀ k, k ≠ 78 → k ≠ 79 → k ≠ 7 + ja → k ≠ 11 + ja → Mb.1 k = M.1 k := fun k h1 h2 h3 h4 => by
      rw [hMb, mw_ne _ _ _ h2, mw_ne _ _ _ h1, mwA_ne _ _ h4, mw_ne _ _ _ h3, mw_ne _ _ _ h3]
    have key : ∀ m i g, i + m = 24 → (∀ j, j < i → g (24 * ja + j) = 0) → (∀ x, x < 24 * ja ∨ 24 * ja + 24 ≤ x → g x = M.1 80 x) → GW xs (d + 7) mX9_sheet 90 [(0, .ref 64), (1, .int (nI ja)), (2, .int b), (3, .int c), (4, .int (nI i))] [] (mwA Mb 80 g) (QI (fun r2 M2 => (1 : Int32) = r2 ∧ Inv M2)) := by
      intro m
      induction m with
      | zero =>
        intro i g hi hg hg2
        apply wp_X9_sheet_64_L90
        refine ite_n (nI_nltI (b := 24) (by omega) (by decide) (by omega)) ⟨rfl, Inv_she hI (fun k hk => ?_) (fun q hq => ?_)⟩
        · simp only [List.mem_cons, List.not_mem_nil, or_false] at hk
          rw [mwA_ne _ _ (by omega), eo k (by omega) (by omega) (by omega) (by omega)]
        · rw [mwA_at, mwA_ne _ _ (by omega), mwA_ne _ _ (by omega), mwA_ne _ _ (by omega), mwA_ne _ _ (by omega), e78, e79]
          by_cases e : q = ja
          · subst e
            rw [e7, e11, upd_at, upd_at, upd_ne _ _ (by decide), upd_at, upd_at]
            exact ⟨rfl, hb, rfl, hn, hbn, fun i hi => by rw [hf i hi, hg i (by omega)]⟩
          · rw [upd_ne _ _ e, upd_ne _ _ e, eo _ (by omega) (by omega) (by omega) (by omega), eo _ (by omega) (by omega) (by omega) (by omega)]
            obtain ⟨s1, s2, s3, s4, s5, s6⟩ := hS q hq
            exact ⟨s1, s2, s3, s4, s5, fun i hi => by rw [s6 i hi, hg2 _ (by omega)]⟩
      | succ m ih =>
        intro i g hi hg hg2
        apply wp_X9_sheet_64_L90
        rw [s24, nn_at (n := 24 * ja + i) (by omega), nI_1, mw_mwA]
        refine ite_p (nI_ltI' (b := 24) (by omega) (by decide) (by omega)) ⟨vin_n (by omega) (by decide), ih (i + 1) _ (by omega) (fun j hj => ?_) (fun x hx => ?_)⟩
        · by_cases e : j = i
          · subst e; rw [upd_at]
          · rw [upd_ne _ _ (by omega)]; exact hg j (by omega)
        · rw [upd_ne _ _ (by omega)]; exact hg2 x hx
    have k0 := key 24 0 (M.1 80) (by omega) (fun j hj => absurd hj (Nat.not_lt_zero j)) (fun _ _ => rfl)
    rw [show mwA Mb 80 (M.1 80) = Mb by rw [← eo 80 (by decide) (by decide) (by omega) (by omega)]; exact mwA_self Mb 80] at k0
    exact k0
  by_cases h0 : b = 0
  · apply wp_X8_sheet_0
    refine (ite_n a1 (ite_p a2 ?_))
    refine ite_p h0 (shD hja (fun f hf => ?_))
    apply wp_X9_sheet_64
    refine (ite_n a1 (ite_n a3 ?_))
    rw [nn_at (n := ja) (by omega)]
    refine ite_p h0 ⟨vin_n hja (by decide), good 0 f (.inl h0) (vin_n (n := 0) (by decide) (by decide)) (fun _ => rfl) hf⟩
  · have bits : ∀ (hb : b = 8 ∨ b = 16 ∨ b = 32), (if c < 0 then MI xs (d + 7) mX9_sheet [.ref 64, .int (nI ja), .int b, .int c] (mw M 6 3 (M.1 6 3 + 1)) (fun r2 M2 => ((-1000000000) : Int32) - 3 = r2 ∧ Inv M2) else (if 24 < c then MI xs (d + 7) mX9_sheet [.ref 64, .int (nI ja), .int b, .int c] (mw M 6 1 (M.1 6 1 + 1)) (fun r2 M2 => ((-1000000000) : Int32) - 1 = r2 ∧ Inv M2) else (vp_in (nI ja) 4 ∧ (nI ja = 0 → MV xs (d + 5) mJ7_fill_53178 [.ref 11, .int 0] (mw (mw M 7 1 b) 7 2 c) (fun M1 => MI xs (d + 7) mX9_sheet [.ref 64, .int (nI ja), .int b, .int c] M1 (fun r2 M2 => (1 : Int32) = r2 ∧ Inv M2))) ∧ (nI ja = 1 → MV xs (d + 5) mJ7_fill_53178 [.ref 12, .int 0] (mw (mw M 8 1 b) 8 2 c) (fun M1 => MI xs (d + 7) mX9_sheet [.ref 64, .int (nI ja), .int b, .int c] M1 (fun r2 M2 => (1 : Int32) = r2 ∧ Inv M2))) ∧ (nI ja = 2 → MV xs (d + 5) mJ7_fill_53178 [.ref 13, .int 0] (mw (mw M 9 1 b) 9 2 c) (fun M1 => MI xs (d + 7) mX9_sheet [.ref 64, .int (nI ja), .int b, .int c] M1 (fun r2 M2 => (1 : Int32) = r2 ∧ Inv M2))) ∧ (nI ja = 3 → MV xs (d + 5) mJ7_fill_53178 [.ref 14, .int 0] (mw (mw M 10 1 b) 10 2 c) (fun M1 => MI xs (d + 7) mX9_sheet [.ref 64, .int (nI ja), .int b, .int c] M1 (fun r2 M2 => (1 : Int32) = r2 ∧ Inv M2)))))) := by
      intro hb
      have up : ∀ (M0 : Mem) (Q : Int32 → Mem → Prop), (if c < 0 then Q (((-1000000000) : Int32) - 3) (mw M0 67 3 ((M0.1 67 3) + 1)) else (if 24 < c then Q (((-1000000000) : Int32) - 1) (mw M0 67 1 ((M0.1 67 1) + 1)) else (vp_in (nI ja) 4 ∧ GW xs (d + 7) mX9_sheet 90 [(0, .ref 64), (1, .int (nI ja)), (2, .int b), (3, .int c), (4, .int 0)] [] (mw (mw M0 78 ja b) 79 ja c) (QI Q)))) → MI xs (d + 7) mX9_sheet [.ref 64, .int (nI ja), .int b, .int c] M0 Q := by
        intro M0 Q h
        apply wp_X9_sheet_64
        refine (ite_n a1 (ite_n a3 ?_))
        rw [nn_at (n := ja) (by omega)]
        refine ite_n h0 ?_
        rcases hb with e | e | e
        · exact ite_p e h
        · exact ite_n (by rw [e]; decide) (ite_p e h)
        · exact ite_n (by rw [e]; decide) (ite_n (by rw [e]; decide) (ite_p e h))
      by_cases c1 : c < 0
      · exact ite_p c1 (up _ _ (ite_p c1 ⟨rfl, Inv_err hI 3⟩))
      · by_cases c2 : 24 < c
        · exact ite_n c1 (ite_p c2 (up _ _ (ite_n c1 (ite_p c2 ⟨rfl, Inv_err hI 1⟩))))
        · refine ite_n c1 (ite_n c2 (shD hja (fun f hf => up _ _ (ite_n c1 (ite_n c2 ⟨vin_n hja (by decide), good c f (.inr hb) ?_ (fun e => absurd e h0) hf⟩)))))
          obtain ⟨j, hj, rfl⟩ := nI_of c1
          refine vin_n ?_ (by decide)
          rcases Nat.lt_or_ge 24 j with e | e
          · exact absurd (nI_ltI' (a := 24) (by omega) hj e) c2
          · omega
    by_cases h8 : b = 8
    · apply wp_X8_sheet_0
      refine (ite_n a1 (ite_p a2 ?_))
      exact ite_n h0 (ite_p h8 (bits (.inl h8)))
    · by_cases h16 : b = 16
      · apply wp_X8_sheet_0
        refine (ite_n a1 (ite_p a2 ?_))
        exact ite_n h0 (ite_n h8 (ite_p h16 (bits (.inr (.inl h16)))))
      · by_cases h32 : b = 32
        · apply wp_X8_sheet_0
          refine (ite_n a1 (ite_p a2 ?_))
          exact ite_n h0 (ite_n h8 (ite_n h16 (ite_p h32 (bits (.inr (.inr h32))))))
        · apply wp_X8_sheet_0
          refine (ite_n a1 (ite_p a2 ?_))
          refine ite_n h0 (ite_n h8 (ite_n h16 (ite_n h32 ?_)))
          apply wp_X9_sheet_64
          refine (ite_n a1 (ite_n a3 ?_))
          exact ite_n h0 (ite_n h8 (ite_n h16 (ite_n h32 ⟨rfl, Inv_err hI 1⟩)))
/-- the lowest bits, with their sign -/
theorem sh_gen (a : Int32) (s : Int32) (k : Nat) (hs : (s.toBitVec.smod 32).toNat = k) : ((a <<< s) >>> s).toInt = (((a.toBitVec.toNat * 2 ^ k % 2 ^ 32 : Nat) : Int).bmod (2 ^ 32)) / ((2 ^ k : Nat) : Int) := by
  have e : (a <<< s).toInt = ((a <<< s).toBitVec.toNat : Int).bmod (2 ^ 32) := BitVec.toInt_eq_toNat_bmod _
  rw [pk_shr _ s k hs, Int.shiftRight_eq_div_pow, e, pk_shl a s k hs]
theorem toI_bm (a : Int32) : a.toInt = ((a.toBitVec.toNat : Int)).bmod (2 ^ 32) := BitVec.toInt_eq_toNat_bmod _
theorem sh8 (a : Int32) : (a <<< (24 : Int32)) >>> (24 : Int32) = a.toInt8.toInt32 := by
  apply Int32.toInt_inj.mp
  rw [sh_gen a 24 24 (by decide), Int8.toInt_toInt32, Int32.toInt_toInt8, toI_bm a]
  generalize a.toBitVec.toNat = n
  simp only [Int.bmod_def]
  omega
theorem sh16 (a : Int32) : (a <<< (16 : Int32)) >>> (16 : Int32) = a.toInt16.toInt32 := by
  apply Int32.toInt_inj.mp
  rw [sh_gen a 16 16 (by decide), Int16.toInt_toInt32, Int32.toInt_toInt16, toI_bm a]
  generalize a.toBitVec.toNat = n
  simp only [Int.bmod_def]
  omega
theorem sh32 (a : Int32) : (a <<< (0 : Int32)) >>> (0 : Int32) = a := by
  apply Int32.toInt_inj.mp
  rw [sh_gen a 0 0 (by decide), toI_bm a]
  have h : a.toBitVec.toNat < 2 ^ 32 := a.toBitVec.isLt
  revert h
  generalize a.toBitVec.toNat = n
  intro h
  simp only [Int.bmod_def]
  omega
theorem ptD {q : Nat} {M : Mem} {E1 E2 E3 : Prop} (K : Mem → Prop) {i v : Int32} (hq : q < 4) (h : if M.1 (7 + q) 1 = 0 then E1 else (if i < 0 then E2 else (if i < M.1 (7 + q) 2 then (if M.1 (7 + q) 1 = 8 then (vp_in i 24 ∧ K (mw M (11 + q) i.toNatClampNeg v.toInt8.toInt32)) else (if M.1 (7 + q) 1 = 16 then (vp_in i 24 ∧ K (mw M (11 + q) i.toNatClampNeg v.toInt16.toInt32)) else (vp_in i 24 ∧ K (mw M (11 + q) i.toNatClampNeg v)))) else E3))) : vp_in (nI q) 4 ∧ (nI q = 0 → if M.1 7 1 = 0 then E1 else (if i < 0 then E2 else (if i < M.1 7 2 then (if M.1 7 1 = 8 then (vp_in i 24 ∧ K (mw M 11 i.toNatClampNeg v.toInt8.toInt32)) else (if M.1 7 1 = 16 then (vp_in i 24 ∧ K (mw M 11 i.toNatClampNeg v.toInt16.toInt32)) else (vp_in i 24 ∧ K (mw M 11 i.toNatClampNeg v)))) else E3))) ∧ (nI q = 1 → if M.1 8 1 = 0 then E1 else (if i < 0 then E2 else (if i < M.1 8 2 then (if M.1 8 1 = 8 then (vp_in i 24 ∧ K (mw M 12 i.toNatClampNeg v.toInt8.toInt32)) else (if M.1 8 1 = 16 then (vp_in i 24 ∧ K (mw M 12 i.toNatClampNeg v.toInt16.toInt32)) else (vp_in i 24 ∧ K (mw M 12 i.toNatClampNeg v)))) else E3))) ∧ (nI q = 2 → if M.1 9 1 = 0 then E1 else (if i < 0 then E2 else (if i < M.1 9 2 then (if M.1 9 1 = 8 then (vp_in i 24 ∧ K (mw M 13 i.toNatClampNeg v.toInt8.toInt32)) else (if M.1 9 1 = 16 then (vp_in i 24 ∧ K (mw M 13 i.toNatClampNeg v.toInt16.toInt32)) else (vp_in i 24 ∧ K (mw M 13 i.toNatClampNeg v)))) else E3))) ∧ (nI q = 3 → if M.1 10 1 = 0 then E1 else (if i < 0 then E2 else (if i < M.1 10 2 then (if M.1 10 1 = 8 then (vp_in i 24 ∧ K (mw M 14 i.toNatClampNeg v.toInt8.toInt32)) else (if M.1 10 1 = 16 then (vp_in i 24 ∧ K (mw M 14 i.toNatClampNeg v.toInt16.toInt32)) else (vp_in i 24 ∧ K (mw M 14 i.toNatClampNeg v)))) else E3))) :=
  disp4 hq (fun q => if M.1 (7 + q) 1 = 0 then E1 else (if i < 0 then E2 else (if i < M.1 (7 + q) 2 then (if M.1 (7 + q) 1 = 8 then (vp_in i 24 ∧ K (mw M (11 + q) i.toNatClampNeg v.toInt8.toInt32)) else (if M.1 (7 + q) 1 = 16 then (vp_in i 24 ∧ K (mw M (11 + q) i.toNatClampNeg v.toInt16.toInt32)) else (vp_in i 24 ∧ K (mw M (11 + q) i.toNatClampNeg v)))) else E3))) h
theorem P_put {xs : gX} {d : Nat} {M : Mem} (hI : Inv M) (a b c : Int32) : PB xs d mX8_put mX9_put [.int a, .int b, .int c] M := by
  have hS := hI.2.2.2.2
  rcases arg3 a 4 (by decide) with h | ⟨h0, h1⟩ | ⟨ja, hja, rfl⟩
  · apply wp_X8_put_0
    refine (ite_p h ?_)
    apply wp_X9_put_64
    exact (ite_p h ⟨rfl, Inv_err hI 1⟩)
  · apply wp_X8_put_0
    refine (ite_n h0 (ite_n h1 ?_))
    apply wp_X9_put_64
    exact (ite_n h0 (ite_p (ar_out (n := 3) rfl rfl (by decide) h1) ⟨rfl, Inv_err hI 1⟩))
  obtain ⟨a1, a2, a3⟩ := ar_in (n := 3) (x := 4) (y := 3) rfl rfl hja (by decide)
  obtain ⟨s1, s2, s3, s4, s5, s6⟩ := hS ja hja
  obtain ⟨cn, hcn, ecn⟩ : ∃ cn, cn < 25 ∧ M.1 79 ja = nI cn := ⟨_, (vin_get s4 (by decide)).2, (vin_get s4 (by decide)).1⟩
  have good : ∀ (j : Nat) (x : Int32), j < cn → Inv (mw (mw M (11 + ja) j x) 80 (24 * ja + j) x) := by
    intro j x hj
    refine Inv_she hI (fun k hk => ?_) (fun q hq => ?_)
    · simp only [List.mem_cons, List.not_mem_nil, or_false] at hk
      rw [mw_ne _ _ _ (by omega), mw_ne _ _ _ (by omega)]
    · have z : (mw (mw M (11 + ja) j x) 80 (24 * ja + j) x).1 80 = upd (M.1 80) (24 * ja + j) x := by rw [mw_at, mw_ne _ _ _ (by omega)]
      rw [z, mw_ne _ _ _ (by omega), mw_ne _ _ _ (by omega), mw_ne _ _ _ (by omega), mw_ne _ _ _ (by omega), mw_ne _ _ _ (by omega), mw_ne _ _ _ (by omega), mw_ne _ _ _ (by omega)]
      obtain ⟨t1, t2, t3, t4, t5, t6⟩ := hS q hq
      refine ⟨t1, t2, t3, t4, t5, fun i hi => ?_⟩
      by_cases e : q = ja
      · subst e
        rw [mw_at]
        by_cases e2 : i = j
        · subst e2; rw [upd_at, upd_at]
        · rw [upd_ne _ _ e2, upd_ne _ _ (by omega)]; exact t6 i hi
      · rw [mw_ne _ _ _ (by omega), upd_ne _ _ (by omega)]; exact t6 i hi
  have ecn7 : M.1 (7 + ja) 2 = nI cn := s3.trans ecn
  by_cases h0 : M.1 78 ja = 0
  · apply wp_X8_put_0
    refine (ite_n a1 (ite_p a2 ?_))
    refine ptD (fun M1 => MI xs (d + 7) mX9_put [.ref 64, .int (nI ja), .int b, .int c] M1 (fun r2 M2 => (1 : Int32) = r2 ∧ Inv M2)) hja (ite_p (s1.trans h0) ?_)
    apply wp_X9_put_64
    refine (ite_n a1 (ite_n a3 ?_))
    rw [nn_at (n := ja) (by omega)]
    exact ⟨vin_n hja (by decide), ite_p h0 ⟨rfl, Inv_err hI 2⟩⟩
  · have h07 : ¬ M.1 (7 + ja) 1 = 0 := fun e => h0 (s1.symm.trans e)
    rcases arg3 b cn (by omega) with h | ⟨h1, h2⟩ | ⟨j, hj, rfl⟩
    · apply wp_X8_put_0
      refine (ite_n a1 (ite_p a2 ?_))
      refine ptD (fun M1 => MI xs (d + 7) mX9_put [.ref 64, .int (nI ja), .int b, .int c] M1 (fun r2 M2 => (1 : Int32) = r2 ∧ Inv M2)) hja (ite_n h07 (ite_p h ?_))
      apply wp_X9_put_64
      refine (ite_n a1 (ite_n a3 ?_))
      rw [nn_at (n := ja) (by omega)]
      exact ⟨vin_n hja (by decide), ite_n h0 (ite_p h ⟨rfl, Inv_err hI 1⟩)⟩
    · apply wp_X8_put_0
      refine (ite_n a1 (ite_p a2 ?_))
      refine ptD (fun M1 => MI xs (d + 7) mX9_put [.ref 64, .int (nI ja), .int b, .int c] M1 (fun r2 M2 => (1 : Int32) = r2 ∧ Inv M2)) hja (ite_n h07 (ite_n h1 (ite_n (cnt_o ecn7 h2) ?_)))
      apply wp_X9_put_64
      refine (ite_n a1 (ite_n a3 ?_))
      rw [nn_at (n := ja) (by omega)]
      exact ⟨vin_n hja (by decide), ite_n h0 (ite_n h1 (ite_p (cnt_out ecn (by omega) h1 h2) ⟨rfl, Inv_err hI 1⟩))⟩
    · obtain ⟨b1, b2, b3⟩ := cnt_in ecn7 ecn (by omega) hj
      have fin : ∀ (x : Int32), ((c <<< ((32 - M.1 78 ja) &&& 31)) >>> ((32 - M.1 78 ja) &&& 31)) = x → MI xs (d + 7) mX9_put [.ref 64, .int (nI ja), .int (nI j), .int c] (mw M (11 + ja) j x) (fun r2 M2 => (1 : Int32) = r2 ∧ Inv M2) := by
        intro x hx
        have e78 : (mw M (11 + ja) j x).1 78 = M.1 78 := mw_ne _ _ _ (by omega)
        have e79 : (mw M (11 + ja) j x).1 79 = M.1 79 := mw_ne _ _ _ (by omega)
        apply wp_X9_put_64
        refine (ite_n a1 (ite_n a3 ?_))
        rw [nn_at (n := ja) (by omega), e78, e79, hx, s24, nn_at (n := 24 * ja + j) (by omega)]
        exact ⟨vin_n hja (by decide), ite_n h0 (ite_n b1 (ite_n b3 ⟨vin_n (by omega) (by decide), rfl, good j x hj⟩))⟩
      apply wp_X8_put_0
      refine (ite_n a1 (ite_p a2 ?_))
      refine ptD (fun M1 => MI xs (d + 7) mX9_put [.ref 64, .int (nI ja), .int (nI j), .int c] M1 (fun r2 M2 => (1 : Int32) = r2 ∧ Inv M2)) hja (ite_n h07 (ite_n b1 (ite_p b2 ?_)))
      rw [s1, nn_at (n := j) (by omega)]
      rcases s2 with e | e | e | e
      · exact absurd e h0
      · rw [e] at fin
        refine ite_p e ⟨vin_n (by omega) (by decide), fin _ ?_⟩
        rw [show ((32 : Int32) - 8) &&& 31 = 24 from by decide]
        exact sh8 c
      · rw [e] at fin
        refine ite_n (by rw [e]; decide) (ite_p e ⟨vin_n (by omega) (by decide), fin _ ?_⟩)
        rw [show ((32 : Int32) - 16) &&& 31 = 16 from by decide]
        exact sh16 c
      · rw [e] at fin
        refine ite_n (by rw [e]; decide) (ite_n (by rw [e]; decide) ⟨vin_n (by omega) (by decide), fin _ ?_⟩)
        rw [show ((32 : Int32) - 32) &&& 31 = 0 from by decide]
        exact sh32 c
