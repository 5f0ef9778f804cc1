theorem cnt_o {v c : Int32} {n : Nat} (hc : c = nI n) (h : ¬ v < nI n) : ¬ v < c := by rw [hc]; exact h
theorem cnt_out {v c : Int32} {n : Nat} (hc : c = nI n) (hn : n < 2 ^ 30) (h0 : ¬ v < 0) (h : ¬ v < nI n) : c - 1 < v := by
  subst hc
  have e := pk_sub_toInt (a := n) (b := 1) hn (by decide)
  rw [Int32.lt_iff_toInt_lt] at *
  rw [show (1 : Int32) = nI 1 from rfl, e]
  rw [nI_toInt (by omega)] at h
  have : (0 : Int32).toInt = 0 := by decide
  omega
theorem cnt_in {c c' : Int32} {n j : Nat} (hc : c = nI n) (hc' : c' = nI n) (hn : n < 2 ^ 30) (hj : j < n) : ¬ nI j < 0 ∧ nI j < c ∧ ¬ c' - 1 < nI j := by
  subst hc hc'
  refine ⟨nI_lt0 (by omega), nI_ltI' (by omega) (by omega) hj, ?_⟩
  have e := pk_sub_toInt (a := n) (b := 1) hn (by decide)
  rw [Int32.lt_iff_toInt_lt, show (1 : Int32) = nI 1 from rfl, e, nI_toInt (by omega)]
  omega
theorem argY (x : Int32) : x < 1 ∨ (¬ x < 1 ∧ 99 < x) ∨ ∃ j, 1 ≤ j ∧ j ≤ 99 ∧ x = nI j := by
  by_cases h : x < 1
  · exact .inl h
  · by_cases h1 : 99 < x
    · exact .inr (.inl ⟨h, h1⟩)
    · have h0 : ¬ x < 0 := by
        rw [Int32.lt_iff_toInt_lt] at *
        have : (1 : Int32).toInt = 1 := by decide
        have : (0 : Int32).toInt = 0 := by decide
        omega
      obtain ⟨j, hj, rfl⟩ := nI_of h0
      refine .inr (.inr ⟨j, ?_, ?_, rfl⟩)
      · rcases Nat.eq_zero_or_pos j with e | e
        · subst e; exact absurd (by decide) h
        · exact e
      · rcases Nat.lt_or_ge 99 j with e | e
        · exact absurd (nI_ltI' (a := 99) (by omega) hj e) h1
        · exact e
theorem ar_inY {j : Nat} (h1 : 1 ≤ j) (h2 : j ≤ 99) : ¬ nI j < 1 ∧ ¬ 99 < nI j := ⟨nI_nltI (b := 1) (by omega) (by decide) h1, nI_nltI (a := 99) (by decide) (by omega) h2⟩
/-- cells that nobody's answer rests on -/
def scr : List Nat := [3, 25, 26, 27, 28, 31, 34, 37, 61, 62, 68, 69, 70, 71, 72, 73, 76, 81]
theorem Inv_scr {M M1 : Mem} (hI : Inv M) (h : ∀ k, k ∉ scr → M1.1 k = M.1 k) : Inv M1 := by
  refine Inv_of hI (fun k hk => h k (fun e => ?_)) ?_
  · revert e hk; unfold oc wc scr; simp only [List.mem_append, List.mem_cons, List.not_mem_nil, or_false]; omega
  · rw [h 65 (by decide)]
    refine IW_frame (fun k hk => h k (fun e => ?_)) (fun _ _ => rfl) hI.1
    revert e hk; unfold wc scr; simp only [List.mem_cons, List.not_mem_nil, or_false]; omega
theorem Inv_68 {M : Mem} (hI : Inv M) (f : Nat → Int32) : Inv (mwA M 68 f) := Inv_scr hI (fun k hk => mwA_ne _ _ (by intro e; subst e; revert hk; decide))
theorem P_date {xs : gX} {d : Nat} {M : Mem} (hI : Inv M) (a b : Int32) : PB xs d mX8_date mX9_date [.int a, .int b] M := by
  obtain ⟨⟨v1, i1⟩, ⟨v2, i2⟩, ⟨v3, i3⟩, ⟨v4, i4⟩, i5⟩ := id hI.1
  have hT0 : M.1 65 1 = nI (N (M.1 65) 1) := v2.1
  have hT1 : M.1 20 1 = nI (N (M.1 65) 1) := i2.1.trans v2.1
  have hTn := v2.2.1
  have hP0 : M.1 65 2 = nI (N (M.1 65) 2) := v3.1
  have hP1 : M.1 22 2 = nI (N (M.1 65) 2) := i3.1.trans v3.1
  have hPn := v3.2.1
  have hS0 : M.1 65 0 = nI (ns (M.1 65)) := v1.1
  have hS1 : M.1 15 4 = nI (ns (M.1 65)) := i1.1.trans v1.1
  have hSn := v1.2.1
  rcases arg3 a 4 (by decide) with h | ⟨h0, h1⟩ | ⟨ja, hja, rfl⟩
  · apply wp_X8_date_0
    refine (ite_p h ?_)
    apply wp_X9_date_64
    exact (ite_p h ⟨rfl, Inv_err hI 1⟩)
  · apply wp_X8_date_0
    refine (ite_n h0 (ite_n h1 ?_))
    apply wp_X9_date_64
    exact (ite_n h0 (ite_p (ar_out (n := 3) rfl rfl (by decide) h1) ⟨rfl, Inv_err hI 1⟩))
  obtain ⟨a1, a2, a3⟩ := ar_in (n := 3) (x := 4) (y := 3) rfl rfl hja (by decide)
  rcases arg3 b 73000 (by decide) with h | ⟨h0, h1⟩ | ⟨jb, hjb, rfl⟩
  · apply wp_X8_date_0
    refine (ite_n a1 (ite_p a2 (ite_p h ?_)))
    apply wp_X9_date_64
    exact (ite_n a1 (ite_n a3 (ite_p h ⟨rfl, Inv_err hI 1⟩)))
  · apply wp_X8_date_0
    refine (ite_n a1 (ite_p a2 (ite_n h0 (ite_n h1 ?_))))
    apply wp_X9_date_64
    exact (ite_n a1 (ite_n a3 (ite_n h0 (ite_p (ar_out (n := 72999) rfl rfl (by decide) h1) ⟨rfl, Inv_err hI 1⟩))))
  obtain ⟨b1, b2, b3⟩ := ar_in (n := 72999) (x := 73000) (y := 72999) rfl rfl hjb (by decide)
  apply wp_X8_date_0
  refine (ite_n a1 (ite_p a2 (ite_n b1 (ite_p b2 ?_))))
  refine dateOf_ok v1 i1 (by omega) (by omega) ?_
  apply wp_X9_date_64
  refine (ite_n a1 (ite_n a3 (ite_n b1 (ite_n b3 ?_))))
  refine findNames_ok v1 (fun f hf => ?_)
  rw [show (365 : Int32) = nI 365 from rfl, pk_div (by omega) (by omega) (by omega), show nI jb - nI (jb / 365) * nI 365 = nI (jb % 365) by rw [← pk_rem (by omega) (by omega) (by omega), pk_div (by omega) (by omega) (by omega)]]
  have e : (200 * nI ja) + nI (jb / 365) = nI (200 * ja + jb / 365) := by simp only [i_lit, nI_mul, nI_add]
  rw [e, nn_at (by omega), mwA_at, hf ja (jb / 365) hja (by omega)]
  refine ⟨vin_n (by omega) (by decide), ?_, Inv_68 hI f⟩
  rw [show (1000 : Int32) = nI 1000 from rfl, nI_mul, nI_add, Nat.mul_comm]
theorem P_saleIs {xs : gX} {d : Nat} {M : Mem} (hI : Inv M) (a b : Int32) : PB xs d mX8_saleIs mX9_saleIs [.int a, .int b] M := by
  obtain ⟨⟨v1, i1⟩, ⟨v2, i2⟩, ⟨v3, i3⟩, ⟨v4, i4⟩, i5⟩ := id hI.1
  have hT0 : M.1 65 1 = nI (N (M.1 65) 1) := v2.1
  have hT1 : M.1 20 1 = nI (N (M.1 65) 1) := i2.1.trans v2.1
  have hTn := v2.2.1
  have hP0 : M.1 65 2 = nI (N (M.1 65) 2) := v3.1
  have hP1 : M.1 22 2 = nI (N (M.1 65) 2) := i3.1.trans v3.1
  have hPn := v3.2.1
  have hS0 : M.1 65 0 = nI (ns (M.1 65)) := v1.1
  have hS1 : M.1 15 4 = nI (ns (M.1 65)) := i1.1.trans v1.1
  have hSn := v1.2.1
  rcases arg3 a (ns (M.1 65)) (by omega) with h | ⟨h0, h1⟩ | ⟨ja, hja, rfl⟩
  · apply wp_X8_saleIs_0
    refine (ite_p h ?_)
    apply wp_X9_saleIs_64
    exact (ite_p h ⟨rfl, Inv_err hI 1⟩)
  · apply wp_X8_saleIs_0
    refine (ite_n h0 (ite_n (cnt_o hS1 h1) ?_))
    apply wp_X9_saleIs_64
    exact (ite_n h0 (ite_p (cnt_out hS0 (by omega) h0 h1) ⟨rfl, Inv_err hI 1⟩))
  obtain ⟨a1, a2, a3⟩ := cnt_in hS1 hS0 (by omega) hja
  rcases arg3 b 3 (by decide) with h | ⟨h0, h1⟩ | ⟨jb, hjb, rfl⟩
  · apply wp_X8_saleIs_0
    refine (ite_n a1 (ite_p a2 (ite_p h ?_)))
    apply wp_X9_saleIs_64
    exact (ite_n a1 (ite_n a3 (ite_p h ⟨rfl, Inv_err hI 1⟩)))
  · apply wp_X8_saleIs_0
    refine (ite_n a1 (ite_p a2 (ite_n h0 (ite_n h1 ?_))))
    apply wp_X9_saleIs_64
    exact (ite_n a1 (ite_n a3 (ite_n h0 (ite_p (ar_out (n := 2) rfl rfl (by decide) h1) ⟨rfl, Inv_err hI 1⟩))))
  obtain ⟨b1, b2, b3⟩ := ar_in (n := 2) (x := 3) (y := 2) rfl rfl hjb (by decide)
  have eR : (10 + (3 * nI ja)) + nI jb = nI (10 + 3 * ja + jb) := by simp only [i_lit, nI_mul, nI_add]
  obtain ⟨g1, g2, g3⟩ := i1.2.1 ja hja
  have fin : MI xs (d + 7) mX9_saleIs [.ref 64, .int (nI ja), .int (nI jb)] M (fun r2 M2 => M.1 65 (10 + 3 * ja + jb) = r2 ∧ Inv M2) := by
    apply wp_X9_saleIs_64
    refine (ite_n a1 (ite_n a3 (ite_n b1 (ite_n b3 ?_))))
    rw [eR, nn_at (by omega)]
    exact ⟨vin_n (by omega) (by decide), rfl, hI⟩
  apply wp_X8_saleIs_0
  refine (ite_n a1 (ite_p a2 (ite_n b1 (ite_p b2 ?_))))
  rw [nn_at (by omega)]
  rcases (show jb = 0 ∨ jb = 1 ∨ jb = 2 by omega) with rfl | rfl | rfl
  · refine ite_p rfl ⟨vin_n (by omega) (by decide), ?_⟩
    rw [g1]; exact fin
  · refine ite_n (by decide) (ite_p rfl ⟨vin_n (by omega) (by decide), ?_⟩)
    rw [g2]; exact fin
  · refine ite_n (by decide) (ite_n (by decide) ⟨vin_n (by omega) (by decide), ?_⟩)
    rw [g3]; exact fin
/-- the clock goes on -/
theorem P_pass {xs : gX} {d : Nat} {M : Mem} (hI : Inv M) (a : Int32) : PB xs d mX8_pass mX9_pass [.int a] M := by
  obtain ⟨⟨v1, i1⟩, ⟨v2, i2⟩, ⟨v3, i3⟩, ⟨v4, i4⟩, i5⟩ := id hI.1
  have hT0 : M.1 65 1 = nI (N (M.1 65) 1) := v2.1
  have hT1 : M.1 20 1 = nI (N (M.1 65) 1) := i2.1.trans v2.1
  have hTn := v2.2.1
  have hP0 : M.1 65 2 = nI (N (M.1 65) 2) := v3.1
  have hP1 : M.1 22 2 = nI (N (M.1 65) 2) := i3.1.trans v3.1
  have hPn := v3.2.1
  have hS0 : M.1 65 0 = nI (ns (M.1 65)) := v1.1
  have hS1 : M.1 15 4 = nI (ns (M.1 65)) := i1.1.trans v1.1
  have hSn := v1.2.1
  obtain ⟨c1, c2, c3, c4, c5, c6, c7⟩ := id i4
  obtain ⟨e3, b3⟩ := vin_get v4.1 (by decide)
  have hclean : ∀ k, k < 73000 → Inv (mw (mw M 1 9 (nI k)) 65 3 (nI k)) := by
    intro k hk
    have e65 : (mw (mw M 1 9 (nI k)) 65 3 (nI k)).1 65 = upd (M.1 65) 3 (nI k) := by rw [mw_at, mw_ne _ _ _ (by decide)]
    have e1 : (mw (mw M 1 9 (nI k)) 65 3 (nI k)).1 1 = upd (M.1 1) 9 (nI k) := by rw [mw_ne _ _ _ (by decide), mw_at]
    refine Inv_of hI (fun k hk => ?_) ?_
    · rw [mw_ne _ _ _ (by intro e; subst e; revert hk; decide), mw_ne _ _ _ (by intro e; subst e; revert hk; decide)]
    · rw [e65]
      refine IW_sca hI.1 (fun j h1 h2 => upd_ne _ _ (by omega)) (fun k hk => ?_) ?_ ?_
      · rw [mw_ne _ _ _ (by intro e; subst e; revert hk; decide), mw_ne _ _ _ (by intro e; subst e; revert hk; decide)]
      · refine ⟨by rw [upd_at]; exact vin_n hk (by decide), ?_⟩
        unfold N
        rw [upd_ne _ _ (by decide), upd_ne _ _ (by decide), upd_ne _ _ (by decide), upd_ne _ _ (by decide)]
        refine ⟨v4.2.1, v4.2.2.1, fun j hj => ?_, v4.2.2.2.2⟩
        rw [upd_ne _ _ (by omega)]; exact v4.2.2.2.1 j hj
      · unfold SCA N
        rw [e1, upd_at, upd_at, upd_ne _ _ (by decide : (10 : Nat) ≠ 9), upd_ne _ _ (by decide : (12 : Nat) ≠ 9), upd_ne _ _ (by decide : (11 : Nat) ≠ 9), upd_ne _ _ (by decide : (6 : Nat) ≠ 9), upd_ne _ _ (by decide : (8 : Nat) ≠ 9), upd_ne _ _ (by decide : (8 : Nat) ≠ 3), upd_ne _ _ (by decide : (4 : Nat) ≠ 3), upd_ne _ _ (by decide : (5 : Nat) ≠ 3), upd_ne _ _ (by decide : (6 : Nat) ≠ 3), upd_ne _ _ (by decide : (7 : Nat) ≠ 3)]
        refine ⟨rfl, c2, c3, c4, fun k hk => ?_, c6, fun k hk => ?_⟩
        · rw [mw_ne _ _ _ (by decide), mw_ne _ _ _ (by decide), upd_ne _ _ (by omega)]; exact c5 k hk
        · rw [mw_ne _ _ _ (by decide), mw_ne _ _ _ (by decide), upd_ne _ _ (by omega)]; exact c7 k hk
  apply wp_X8_pass_0
  by_cases h1 : a < 1
  · refine ite_p h1 ?_
    apply wp_X9_pass_64
    exact ite_p h1 ⟨rfl, Inv_err hI 1⟩
  · refine ite_n h1 ?_
    by_cases h2 : 9999 < a
    · refine ite_p h2 ?_
      apply wp_X9_pass_64
      exact ite_n h1 (ite_p h2 ⟨rfl, Inv_err hI 1⟩)
    · refine ite_n h2 ?_
      obtain ⟨j, hj, rfl⟩ : ∃ j, j < 10000 ∧ a = nI j := by
        have h0 : ¬ a < 0 := by
          rw [Int32.lt_iff_toInt_lt] at *
          have : (1 : Int32).toInt = 1 := by decide
          have : (0 : Int32).toInt = 0 := by decide
          omega
        obtain ⟨j, hj, rfl⟩ := nI_of h0
        refine ⟨j, ?_, rfl⟩
        rcases Nat.lt_or_ge j 10000 with h | h
        · exact h
        · exact absurd (nI_ltI' (a := 9999) (by omega) hj (by omega)) h2
      rw [c1, e3, nI_add]
      by_cases h3 : (M.1 65 3).toNatClampNeg + j < 73000
      · refine ite_p (lit_lt (n := 73000) rfl h3 (by decide)) ?_
        apply wp_X9_pass_64
        refine ite_n h1 (ite_n h2 ?_)
        rw [mw_ne _ _ _ (by decide : (65 : Nat) ≠ 1), e3, nn_at (by omega), nI_add]
        refine ite_n (nI_nltI (a := 72999) (by decide) (by omega) (by omega)) ⟨rfl, hclean _ h3⟩
      · refine ite_n (lit_nlt (n := 73000) rfl (by omega) (by omega)) ?_
        apply wp_X9_pass_64
        refine ite_n h1 (ite_n h2 ?_)
        rw [mw_ne _ _ _ (by decide : (65 : Nat) ≠ 6), e3, nI_add]
        exact ite_p (nI_ltI' (a := 72999) (by decide) (by omega) (by omega)) ⟨rfl, Inv_err hI 3⟩
