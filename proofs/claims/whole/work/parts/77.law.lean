/-! ===== the law's loop: every public method answers as the reference does ===== -/
theorem lw_m6 {n : Nat} (h : n ≤ 3072) : (Int32.ofNat n - 6).toInt = (n : Int) - 6 := by
  have e : (Int32.ofNat n).toInt = n := nI_toInt (by omega)
  rw [Int32.toInt_sub, e]
  show ((n : Int) - 6).bmod (2 ^ 32) = _
  rw [Int.bmod_eq_of_le] <;> omega
theorem law_loop {xs : gX} {d : Nat} (hx : xs.1 ≤ 3072) : ∀ (n i : Nat) (M : Mem), Inv M → xs.1 ≤ 6 * n + i → i ≤ xs.1 → GW xs (d + 54) mL_law 18 [(0, .ref 3000), (1, .ref 0), (2, .ref 64), (3, .int (nI i))] [] M (QI (fun r _ => r = 1)) := by
  intro n
  induction n with
  | zero =>
    intro i M hI h1 h2
    apply wp_L_law_L18
    refine ite_p ?_ rfl
    rw [Int32.lt_iff_toInt_lt, nI_toInt (by omega), lw_m6 hx]
    omega
  | succ n ih =>
    intro i M hI h1 h2
    apply wp_L_law_L18
    by_cases h6 : i + 6 ≤ xs.1
    · have v : ∀ k : Nat, k < 6 → vp_in (nI i + nI k) xs.1 := fun k hk => by rw [nI_add]; exact vin_n (by omega) (by omega)
      have v0 : vp_in (nI i) xs.1 := vin_n (by omega) (by omega)
      have v1 : vp_in (nI i + 1) xs.1 := v 1 (by decide)
      have v2 : vp_in (nI i + 2) xs.1 := v 2 (by decide)
      have v3 : vp_in (nI i + 3) xs.1 := v 3 (by decide)
      have v4 : vp_in (nI i + 4) xs.1 := v 4 (by decide)
      have v5 : vp_in (nI i + 5) xs.1 := v 5 (by decide)
      have e6 : nI i + 6 = nI (i + 6) := nI_add i 6
      have hG : ∀ M', Inv M' → GW xs (d + 54) mL_law 18 [(0, .ref 3000), (1, .ref 0), (2, .ref 64), (3, .int (nI i + 6))] [] M' (QI (fun r _ => r = 1)) := fun M' h' => by rw [e6]; exact ih _ M' h' (by omega) h6
      refine ite_n ?_ ⟨v0, ?_⟩
      · rw [Int32.lt_iff_toInt_lt, nI_toInt (by omega), lw_m6 hx]
        omega
      by_cases q0 : xs.2 (nI i).toNatClampNeg &&& 63 = 0
      · exact ite_p q0 ⟨v1, v2, v3, MI.mono (P_sale (d := d + 46) hI _ _ _) (fun r M1 h1 => ⟨v1, v2, v3, MI.mono h1 (fun r' M2 h3 => ite_p (h3.1) (hG M2 h3.2))⟩)⟩
      refine ite_n q0 ?_
      by_cases q1 : xs.2 (nI i).toNatClampNeg &&& 63 = 1
      · exact ite_p q1 ⟨v1, v2, MI.mono (P_saleIs (d := d + 46) hI _ _) (fun r M1 h1 => ⟨v1, v2, MI.mono h1 (fun r' M2 h3 => ite_p (h3.1) (hG M2 h3.2))⟩)⟩
      refine ite_n q1 ?_
      by_cases q2 : xs.2 (nI i).toNatClampNeg &&& 63 = 2
      · exact ite_p q2 (MI.mono (P_undo (d := d + 46) hI) (fun r M1 h1 => (MI.mono h1 (fun r' M2 h3 => ite_p (h3.1) (hG M2 h3.2)))))
      refine ite_n q2 ?_
      by_cases q3 : xs.2 (nI i).toNatClampNeg &&& 63 = 3
      · exact ite_p q3 ⟨v1, v2, MI.mono (P_name (d := d + 46) hI _ _) (fun r M1 h1 => ⟨v1, v2, MI.mono h1 (fun r' M2 h3 => ite_p (h3.1) (hG M2 h3.2))⟩)⟩
      refine ite_n q3 ?_
      by_cases q4 : xs.2 (nI i).toNatClampNeg &&& 63 = 4
      · exact ite_p q4 ⟨v1, v2, MI.mono (P_date (d := d + 46) hI _ _) (fun r M1 h1 => ⟨v1, v2, MI.mono h1 (fun r' M2 h3 => ite_p (h3.1) (hG M2 h3.2))⟩)⟩
      refine ite_n q4 ?_
      by_cases q5 : xs.2 (nI i).toNatClampNeg &&& 63 = 5
      · exact ite_p q5 ⟨v1, v2, v3, v4, MI.mono (P_day (d := d + 46) hI _ _ _ _) (fun r M1 h1 => ⟨v1, v2, v3, v4, MI.mono h1 (fun r' M2 h3 => ite_p (h3.1) (hG M2 h3.2))⟩)⟩
      refine ite_n q5 ?_
      by_cases q6 : xs.2 (nI i).toNatClampNeg &&& 63 = 6
      · exact ite_p q6 ⟨v1, MI.mono (P_pass (d := d + 46) hI _) (fun r M1 h1 => ⟨v1, MI.mono h1 (fun r' M2 h3 => ite_p (h3.1) (hG M2 h3.2))⟩)⟩
      refine ite_n q6 ?_
      by_cases q7 : xs.2 (nI i).toNatClampNeg &&& 63 = 7
      · exact ite_p q7 ⟨v1, v2, v3, MI.mono (P_thing (d := d + 46) hI _ _ _) (fun r M1 h1 => ⟨v1, v2, v3, MI.mono h1 (fun r' M2 h3 => ite_p (h3.1) (hG M2 h3.2))⟩)⟩
      refine ite_n q7 ?_
      by_cases q8 : xs.2 (nI i).toNatClampNeg &&& 63 = 8
      · exact ite_p q8 ⟨v1, v2, MI.mono (P_thingIs (d := d + 46) hI _ _) (fun r M1 h1 => ⟨v1, v2, MI.mono h1 (fun r' M2 h3 => ite_p (h3.1) (hG M2 h3.2))⟩)⟩
      refine ite_n q8 ?_
      by_cases q9 : xs.2 (nI i).toNatClampNeg &&& 63 = 9
      · exact ite_p q9 ⟨v1, v2, MI.mono (P_as (d := d + 46) hI _ _) (fun r M1 h1 => ⟨v1, v2, MI.mono h1 (fun r' M2 h3 => ite_p (h3.1) (hG M2 h3.2))⟩)⟩
      refine ite_n q9 ?_
      by_cases q10 : xs.2 (nI i).toNatClampNeg &&& 63 = 10
      · exact ite_p q10 ⟨v1, v2, v3, MI.mono (P_set (d := d + 46) hI _ _ _) (fun r M1 h1 => ⟨v1, v2, v3, MI.mono h1 (fun r' M2 h3 => ite_p (h3.1) (hG M2 h3.2))⟩)⟩
      refine ite_n q10 ?_
      by_cases q11 : xs.2 (nI i).toNatClampNeg &&& 63 = 11
      · exact ite_p q11 ⟨v1, v2, v3, MI.mono (P_age (d := d + 46) hI _ _ _) (fun r M1 h1 => ⟨v1, v2, v3, MI.mono h1 (fun r' M2 h3 => ite_p (h3.1) (hG M2 h3.2))⟩)⟩
      refine ite_n q11 ?_
      by_cases q12 : xs.2 (nI i).toNatClampNeg &&& 63 = 12
      · exact ite_p q12 ⟨v1, v2, v3, MI.mono (P_comes (d := d + 46) hI _ _ _) (fun r M1 h1 => ⟨v1, v2, v3, MI.mono h1 (fun r' M2 h3 => ite_p (h3.1) (hG M2 h3.2))⟩)⟩
      refine ite_n q12 ?_
      by_cases q13 : xs.2 (nI i).toNatClampNeg &&& 63 = 13
      · exact ite_p q13 ⟨v1, v2, MI.mono (P_where (d := d + 46) hI _ _) (fun r M1 h1 => ⟨v1, v2, MI.mono h1 (fun r' M2 h3 => ite_p (h3.1) (hG M2 h3.2))⟩)⟩
      refine ite_n q13 ?_
      by_cases q14 : xs.2 (nI i).toNatClampNeg &&& 63 = 14
      · exact ite_p q14 (MI.mono (P_twins (d := d + 46) hI) (fun r M1 h1 => (MI.mono h1 (fun r' M2 h3 => ite_p (h3.1) (hG M2 h3.2)))))
      refine ite_n q14 ?_
      by_cases q15 : xs.2 (nI i).toNatClampNeg &&& 63 = 15
      · exact ite_p q15 ⟨v1, v2, v3, MI.mono (P_feed (d := d + 46) hI _ _) (fun r M1 h1 => ⟨v1, v2, v3, MI.mono h1 (fun r' M2 h3 => ite_p (h3.1) (hG M2 h3.2))⟩)⟩
      refine ite_n q15 ?_
      by_cases q16 : xs.2 (nI i).toNatClampNeg &&& 63 = 16
      · exact ite_p q16 ⟨v1, MI.mono (P_text (d := d) hI _) (fun r M1 h1 => ⟨v1, MI.mono h1 (fun r' M2 h3 => ite_p (h3.1) (hG M2 h3.2))⟩)⟩
      refine ite_n q16 ?_
      by_cases q17 : xs.2 (nI i).toNatClampNeg &&& 63 = 17
      · exact ite_p q17 ⟨v1, MI.mono (P_untell (d := d + 46) hI _) (fun r M1 h1 => ⟨v1, MI.mono h1 (fun r' M2 h3 => ite_p (h3.1) (hG M2 h3.2))⟩)⟩
      refine ite_n q17 ?_
      by_cases q18 : xs.2 (nI i).toNatClampNeg &&& 63 = 18
      · exact ite_p q18 ⟨v1, v2, MI.mono (P_paper (d := d + 46) hI _ _) (fun r M1 h1 => ⟨v1, v2, MI.mono h1 (fun r' M2 h3 => ite_p (h3.1) (hG M2 h3.2))⟩)⟩
      refine ite_n q18 ?_
      by_cases q19 : xs.2 (nI i).toNatClampNeg &&& 63 = 19
      · exact ite_p q19 ⟨v1, v2, MI.mono (P_paperIs (d := d + 46) hI _ _) (fun r M1 h1 => ⟨v1, v2, MI.mono h1 (fun r' M2 h3 => ite_p (h3.1) (hG M2 h3.2))⟩)⟩
      refine ite_n q19 ?_
      by_cases q20 : xs.2 (nI i).toNatClampNeg &&& 63 = 20
      · exact ite_p q20 (MI.mono (P_burn (d := d + 46) hI) (fun r M1 h1 => (MI.mono h1 (fun r' M2 h3 => ite_p (h3.1) (hG M2 h3.2)))))
      refine ite_n q20 ?_
      by_cases q21 : xs.2 (nI i).toNatClampNeg &&& 63 = 21
      · exact ite_p q21 ⟨v1, v2, MI.mono (P_may (d := d + 46) hI _ _) (fun r M1 h1 => ⟨v1, v2, MI.mono h1 (fun r' M2 h3 => ite_p (h3.1) (hG M2 h3.2))⟩)⟩
      refine ite_n q21 ?_
      by_cases q22 : xs.2 (nI i).toNatClampNeg &&& 63 = 22
      · exact ite_p q22 (ML.mono (P_rows (d := d + 46) hI) (fun r M1 h1 => (ML.mono h1 (fun r' M2 h3 => ite_p ((lg_cmp_eq _ _).mpr h3.1) (hG M2 h3.2)))))
      refine ite_n q22 ?_
      by_cases q23 : xs.2 (nI i).toNatClampNeg &&& 63 = 23
      · exact ite_p q23 ⟨v1, v2, MI.mono (P_span (d := d + 46) hI _ _) (fun r M1 h1 => ⟨v1, v2, MI.mono h1 (fun r' M2 h3 => ite_p (h3.1) (hG M2 h3.2))⟩)⟩
      refine ite_n q23 ?_
      by_cases q24 : xs.2 (nI i).toNatClampNeg &&& 63 = 24
      · exact ite_p q24 (MI.mono (P_clerk (d := d + 46) hI) (fun r M1 h1 => (MI.mono h1 (fun r' M2 h3 => ite_p (h3.1) (hG M2 h3.2)))))
      refine ite_n q24 ?_
      by_cases q25 : xs.2 (nI i).toNatClampNeg &&& 63 = 25
      · exact ite_p q25 ⟨v1, MI.mono (P_seed (d := d + 46) hI _) (fun r M1 h1 => ⟨v1, MI.mono h1 (fun r' M2 h3 => ite_p (h3.1) (hG M2 h3.2))⟩)⟩
      refine ite_n q25 ?_
      by_cases q26 : xs.2 (nI i).toNatClampNeg &&& 63 = 26
      · exact ite_p q26 ⟨v1, v2, MI.mono (P_comet (d := d + 46) hI _ _) (fun r M1 h1 => ⟨v1, v2, MI.mono h1 (fun r' M2 h3 => ite_p (h3.1) (hG M2 h3.2))⟩)⟩
      refine ite_n q26 ?_
      by_cases q27 : xs.2 (nI i).toNatClampNeg &&& 63 = 27
      · exact ite_p q27 ⟨v1, MI.mono (P_claim (d := d + 46) hI _) (fun r M1 h1 => ⟨v1, MI.mono h1 (fun r' M2 h3 => ite_p (h3.1) (hG M2 h3.2))⟩)⟩
      refine ite_n q27 ?_
      by_cases q28 : xs.2 (nI i).toNatClampNeg &&& 63 = 28
      · exact ite_p q28 ⟨v1, v2, v3, MI.mono (P_breaks (d := d + 46) hI _ _ _) (fun r M1 h1 => ⟨v1, v2, v3, MI.mono h1 (fun r' M2 h3 => ite_p (h3.1) (hG M2 h3.2))⟩)⟩
      refine ite_n q28 ?_
      by_cases q29 : xs.2 (nI i).toNatClampNeg &&& 63 = 29
      · exact ite_p q29 ⟨v1, v2, MI.mono (P_least (d := d + 46) hI _ _) (fun r M1 h1 => ⟨v1, v2, MI.mono h1 (fun r' M2 h3 => ite_p (h3.1) (hG M2 h3.2))⟩)⟩
      refine ite_n q29 ?_
      by_cases q30 : xs.2 (nI i).toNatClampNeg &&& 63 = 30
      · exact ite_p q30 ⟨v1, v2, v3, MI.mono (P_voice (d := d + 37) hI _ _ _) (fun r M1 h1 => ⟨v1, v2, v3, MI.mono h1 (fun r' M2 h3 => ite_p (h3.1) (hG M2 h3.2))⟩)⟩
      refine ite_n q30 ?_
      by_cases q31 : xs.2 (nI i).toNatClampNeg &&& 63 = 31
      · exact ite_p q31 ⟨v1, MI.mono (P_body (d := d + 46) hI _) (fun r M1 h1 => ⟨v1, MI.mono h1 (fun r' M2 h3 => ite_p (h3.1) (hG M2 h3.2))⟩)⟩
      refine ite_n q31 ?_
      by_cases q32 : xs.2 (nI i).toNatClampNeg &&& 63 = 32
      · exact ite_p q32 ⟨v1, v2, v3, MI.mono (P_sheet (d := d + 46) hI _ _ _) (fun r M1 h1 => ⟨v1, v2, v3, MI.mono h1 (fun r' M2 h3 => ite_p (h3.1) (hG M2 h3.2))⟩)⟩
      refine ite_n q32 ?_
      by_cases q33 : xs.2 (nI i).toNatClampNeg &&& 63 = 33
      · exact ite_p q33 ⟨v1, v2, v3, MI.mono (P_put (d := d + 46) hI _ _ _) (fun r M1 h1 => ⟨v1, v2, v3, MI.mono h1 (fun r' M2 h3 => ite_p (h3.1) (hG M2 h3.2))⟩)⟩
      refine ite_n q33 ?_
      by_cases q34 : xs.2 (nI i).toNatClampNeg &&& 63 = 34
      · exact ite_p q34 ⟨v1, v2, v3, v4, v5, MI.mono (P_move (d := d + 46) hI _ _ _ _ _) (fun r M1 h1 => ⟨v1, v2, v3, v4, v5, MI.mono h1 (fun r' M2 h3 => ite_p (h3.1) (hG M2 h3.2))⟩)⟩
      refine ite_n q34 ?_
      by_cases q35 : xs.2 (nI i).toNatClampNeg &&& 63 = 35
      · exact ite_p q35 ⟨v1, MI.mono (P_papers (d := d + 46) hI _) (fun r M1 h1 => ⟨v1, MI.mono h1 (fun r' M2 h3 => ite_p (h3.1) (hG M2 h3.2))⟩)⟩
      refine ite_n q35 ?_
      by_cases q36 : xs.2 (nI i).toNatClampNeg &&& 63 = 36
      · exact ite_p q36 ⟨v1, v2, v3, MI.mono (P_judge (d := d + 46) hI _ _ _) (fun r M1 h1 => ⟨v1, v2, v3, MI.mono h1 (fun r' M2 h3 => ite_p (h3.1) (hG M2 h3.2))⟩)⟩
      refine ite_n q36 ?_
      by_cases q37 : xs.2 (nI i).toNatClampNeg &&& 63 = 37
      · exact ite_p q37 (MI.mono (P_image (d := d + 46) hI) (fun r M1 h1 => (MI.mono h1 (fun r' M2 h3 => ite_p (h3.1) (hG M2 h3.2)))))
      refine ite_n q37 ?_
      by_cases q38 : xs.2 (nI i).toNatClampNeg &&& 63 = 38
      · exact ite_p q38 (MI.mono (P_restore (d := d + 46) hI) (fun r M1 h1 => (MI.mono h1 (fun r' M2 h3 => ite_p (h3.1) (hG M2 h3.2)))))
      refine ite_n q38 ?_
      by_cases q39 : xs.2 (nI i).toNatClampNeg &&& 63 = 39
      · exact ite_p q39 ⟨v1, MI.mono (P_tell (d := d + 46) hI _) (fun r M1 h1 => ⟨v1, MI.mono h1 (fun r' M2 h3 => ite_p (h3.1) (hG M2 h3.2))⟩)⟩
      refine ite_n q39 ?_
      by_cases q40 : xs.2 (nI i).toNatClampNeg &&& 63 = 40
      · exact ite_p q40 (MI.mono (P_check (d := d + 46) hI) (fun r M1 h1 => (MI.mono h1 (fun r' M2 h3 => ite_p (h3.1) (hG M2 h3.2)))))
      refine ite_n q40 ?_
      by_cases q41 : xs.2 (nI i).toNatClampNeg &&& 63 = 41
      · exact ite_p q41 ⟨v1, MI.mono (P_count (d := d + 46) hI _) (fun r M1 h1 => ⟨v1, MI.mono h1 (fun r' M2 h3 => ite_p (h3.1) (hG M2 h3.2))⟩)⟩
      refine ite_n q41 ?_
      by_cases q42 : xs.2 (nI i).toNatClampNeg &&& 63 = 42
      · exact ite_p q42 ⟨v1, MI.mono (P_told (d := d + 46) hI _) (fun r M1 h1 => ⟨v1, MI.mono h1 (fun r' M2 h3 => ite_p (h3.1) (hG M2 h3.2))⟩)⟩
      refine ite_n q42 ?_
      exact hG M hI
    · refine ite_p ?_ rfl
      rw [Int32.lt_iff_toInt_lt, nI_toInt (by omega), lw_m6 hx]
      omega
