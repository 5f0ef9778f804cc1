/-! ===== the public methods, both sides: one answer, and the invariant again ===== -/
def PB (xs : gX) (d : Nat) (mc mr : gM) (ac : List Value) (M : Mem) : Prop := MI xs (d + 7) mc (.ref 0 :: ac) M (fun r1 M1 => MI xs (d + 7) mr (.ref 64 :: ac) M1 (fun r2 M2 => r1 = r2 ∧ Inv M2))
theorem ar_in {j n : Nat} {x y : Int32} (hx : x = nI (n + 1)) (hy : y = nI n) (hj : j < n + 1) (hn : n < 2 ^ 30) : ¬ nI j < 0 ∧ nI j < x ∧ ¬ y < nI j := by
  subst hx hy
  exact ⟨nI_lt0 (by omega), nI_ltI' (by omega) (by omega) hj, nI_nltI (by omega) (by omega) (by omega)⟩
theorem ar_out {v x y : Int32} {n : Nat} (hx : x = nI (n + 1)) (hy : y = nI n) (hn : n < 2 ^ 30) (h : ¬ v < x) : y < v := by
  subst hx hy
  rw [Int32.lt_iff_toInt_lt, nI_toInt (by omega)] at *
  omega
theorem lit_lt {j n : Nat} {x : Int32} (hx : x = nI n) (hj : j < n) (hn : n < 2 ^ 31) : nI j < x := by subst hx; exact nI_ltI' (by omega) hn hj
theorem lit_nlt {j n : Nat} {x : Int32} (hx : x = nI n) (hj : n ≤ j) (hn : j < 2 ^ 31) : ¬ nI j < x := by subst hx; exact nI_nltI (by omega) (by omega) hj
theorem P_seed {xs : gX} {d : Nat} {M : Mem} (hI : Inv M) (a : Int32) : PB xs d mX8_seed mX9_seed [.int a] M := by
  apply wp_X8_seed_0
  apply wp_X9_seed_64
  rw [mw_ne _ _ _ (by decide : (65 : Nat) ≠ 1)]
  obtain ⟨-, -, -, ⟨v4, c1, c2, c3, c4, c5, c6, c7⟩, -⟩ := id hI.1
  refine ⟨c2, Inv_of hI (fun k hk => ?_) ?_⟩
  · rw [mw_ne _ _ _ (by intro e; subst e; revert hk; decide), mw_ne _ _ _ (by intro e; subst e; revert hk; decide)]
  · have e65 : (mw (mw M 1 10 a) 65 8 a).1 65 = upd (M.1 65) 8 a := by rw [mw_at, mw_ne _ _ _ (by decide)]
    have e1 : (mw (mw M 1 10 a) 65 8 a).1 1 = upd (M.1 1) 10 a := by rw [mw_ne _ _ _ (by decide), mw_at]
    rw [e65]
    refine IW_sca hI.1 (fun j h1 h2 => upd_ne _ _ (by omega)) (fun k hk => ?_) (VC_congr ?_ ?_ v4) ?_
    · rw [mw_ne _ _ _ (by intro e; subst e; revert hk; decide), mw_ne _ _ _ (by intro e; subst e; revert hk; decide)]
    · intro j h1 h2; exact upd_ne _ _ (by omega)
    · intro j h1 h2; exact upd_ne _ _ (by omega)
    · unfold SCA N
      rw [e1]
      simp only [upd_ne _ _ (by decide : (9 : Nat) ≠ 10), upd_ne _ _ (by decide : (12 : Nat) ≠ 10), upd_ne _ _ (by decide : (11 : Nat) ≠ 10), upd_ne _ _ (by decide : (6 : Nat) ≠ 10), upd_ne _ _ (by decide : (8 : Nat) ≠ 10), upd_ne _ _ (by decide : (3 : Nat) ≠ 8), upd_ne _ _ (by decide : (4 : Nat) ≠ 8), upd_ne _ _ (by decide : (5 : Nat) ≠ 8), upd_ne _ _ (by decide : (6 : Nat) ≠ 8), upd_ne _ _ (by decide : (7 : Nat) ≠ 8), upd_at]
      refine ⟨c1, trivial, c3, c4, fun k hk => ?_, c6, fun k hk => ?_⟩
      · rw [mw_ne _ _ _ (by decide), mw_ne _ _ _ (by decide), upd_ne _ _ (by omega)]; exact c5 k hk
      · rw [mw_ne _ _ _ (by decide), mw_ne _ _ _ (by decide), upd_ne _ _ (by omega)]; exact c7 k hk
theorem P_told {xs : gX} {d : Nat} {M : Mem} (hI : Inv M) (a : Int32) : PB xs d mX8_told mX9_told [.int a] M := by
  apply wp_X8_told_0
  by_cases h1 : a < 1
  · refine ite_p h1 ?_
    apply wp_X9_told_64
    exact ite_p h1 ⟨rfl, Inv_err hI 1⟩
  · refine ite_n h1 ?_
    by_cases h2 : 6 < a
    · refine ite_p h2 ?_
      apply wp_X9_told_64
      exact ite_n h1 (ite_p h2 ⟨rfl, Inv_err hI 1⟩)
    · refine ite_n h2 ?_
      obtain ⟨j, hj, rfl⟩ : ∃ j, j < 7 ∧ a = nI j := by
        have h0 : ¬ a < 0 := by
          rw [Int32.lt_iff_toInt_lt] at *
          have : (1 : Int32).toInt = 1 := by decide
          have : (0 : Int32).toInt = 0 := by decide
          omega
        obtain ⟨j, hj, rfl⟩ := nI_of h0
        refine ⟨j, ?_, rfl⟩
        by_cases h : j < 7
        · exact h
        · exact absurd (nI_ltI' (a := 6) (by omega) hj (by omega)) h2
      refine ⟨vin_n hj (by decide), ?_⟩
      apply wp_X9_told_64
      refine ite_n h1 (ite_n h2 ⟨vin_n hj (by decide), ?_, hI⟩)
      rw [nn_at (by omega)]
      exact hI.2.2.1 j hj
theorem P_name {xs : gX} {d : Nat} {M : Mem} (hI : Inv M) (a b : Int32) : PB xs d mX8_name mX9_name [.int a, .int b] M := by
  obtain ⟨⟨v1, i1⟩, -⟩ := id hI.1
  apply wp_X8_name_0
  rcases arg3 a 4 (by decide) with h | ⟨h0, h1⟩ | ⟨c, hc, rfl⟩
  · refine ite_p h ?_
    apply wp_X9_name_64
    exact ite_p h ⟨rfl, Inv_err hI 1⟩
  · refine ite_n h0 (ite_n h1 ?_)
    apply wp_X9_name_64
    exact ite_n h0 (ite_p (ar_out (n := 3) rfl rfl (by decide) h1) ⟨rfl, Inv_err hI 1⟩)
  obtain ⟨a1, a2, a3⟩ := ar_in (n := 3) (x := 4) (y := 3) rfl rfl hc (by decide)
  refine ite_n a1 (ite_p a2 ?_)
  rcases arg3 b 200 (by decide) with h | ⟨h0, h1⟩ | ⟨y, hy, rfl⟩
  · refine ite_p h ?_
    apply wp_X9_name_64
    exact ite_n a1 (ite_n a3 (ite_p h ⟨rfl, Inv_err hI 1⟩))
  · refine ite_n h0 (ite_n h1 ?_)
    apply wp_X9_name_64
    exact ite_n a1 (ite_n a3 (ite_n h0 (ite_p (ar_out (n := 199) rfl rfl (by decide) h1) ⟨rfl, Inv_err hI 1⟩)))
  obtain ⟨b1, b2, b3⟩ := ar_in (n := 199) (x := 200) (y := 199) rfl rfl hy (by decide)
  refine ite_n b1 (ite_p b2 ?_)
  refine nameOf_ok v1 i1 (by omega) (by omega) ?_
  apply wp_X9_name_64
  refine ite_n a1 (ite_n a3 (ite_n b1 (ite_n b3 ?_)))
  refine findNames_ok v1 (fun f hf => ?_)
  have e : (200 * nI c) + nI y = nI (200 * c + y) := by simp only [i_lit, nI_mul, nI_add]
  rw [e, nn_at (by omega), mwA_at, hf c y hc hy]
  refine ⟨vin_n (by omega) (by decide), rfl, Inv_of hI (fun k hk => mwA_ne _ _ (by intro e; subst e; revert hk; decide)) ?_⟩
  rw [mwA_ne _ _ (by decide)]
  exact IW_frame (fun k hk => mwA_ne _ _ (by intro e; subst e; revert hk; decide)) (fun _ _ => rfl) hI.1
