theorem P_tell {xs : gX} {d : Nat} {M : Mem} (hI : Inv M) (a : Int32) : PB xs d mX8_tell mX9_tell [.int a] M := by
  obtain ⟨⟨v1, i1⟩, ⟨v2, i2⟩, ⟨v3, i3⟩, ⟨v4, i4⟩, i5⟩ := id hI.1
  have hT0 : M.1 65 1 = nI (N (M.1 65) 1) := v2.1
  have hT1 : M.1 20 1 = nI (N (M.1 65) 1) := i2.1.trans v2.1
  have hTn := v2.2.1
  have hP0 : M.1 65 2 = nI (N (M.1 65) 2) := v3.1
  have hP1 : M.1 22 2 = nI (N (M.1 65) 2) := i3.1.trans v3.1
  have hPn := v3.2.1
  have hS0 : M.1 65 0 = nI (ns (M.1 65)) := v1.1
  have hS1 : M.1 15 4 = nI (ns (M.1 65)) := i1.1.trans v1.1
  have hSn := v1.2.1
  obtain ⟨c1, c2, c3, c4, c5, c6, c7⟩ := id i4
  obtain ⟨e7, b7⟩ := vin_get v4.2.2.2.2 (by decide)
  obtain ⟨n, hn⟩ : ∃ n, n = (M.1 65 7).toNatClampNeg := ⟨_, rfl⟩
  rw [← hn] at e7 b7
  apply wp_X8_tell_0
  rw [c6, e7]
  by_cases h : n < 24
  · refine ite_p (lit_lt (n := 24) rfl h (by decide)) ⟨vin_n h (by decide), ?_⟩
    rw [nn_at (by omega), nI_1]
    apply wp_X9_tell_64
    have o : ∀ k, k ≠ 1 → k ≠ 36 → (mw (mw M 36 n a) 1 8 (nI (n + 1))).1 k = M.1 k := fun k h1 h2 => by rw [mw_ne _ _ _ h1, mw_ne _ _ _ h2]
    have z : 394 + nI n = nI (394 + n) := by simp only [i_lit, nI_add]
    rw [o 65 (by decide) (by decide), e7, z, nn_at (by omega)]
    have r7 : (mw (mw (mw M 36 n a) 1 8 (nI (n + 1))) 65 (394 + n) a).1 65 7 = nI n := by
      rw [mw_at, upd_ne _ _ (by omega), o 65 (by decide) (by decide)]; exact e7
    rw [r7, nI_1]
    refine ite_n (nI_ne (b := 24) (by omega) (by decide) (by omega)) ⟨vin_n (by omega) (by decide), rfl, Inv_of hI (fun k hk => ?_) ?_⟩
    · rw [mw_ne _ _ _ (by intro e; subst e; revert hk; decide), mw_ne _ _ _ (by intro e; subst e; revert hk; decide)]
      exact o k (by intro e; subst e; revert hk; decide) (by intro e; subst e; revert hk; decide)
    · rw [mw_at, mw_at, o 65 (by decide) (by decide)]
      refine IW_sca hI.1 (fun j h1 h2 => by rw [upd_ne _ _ (by omega), upd_ne _ _ (by omega)]) (fun k hk => ?_) ?_ ?_
      · rw [mw_ne _ _ _ (by intro e; subst e; revert hk; decide), mw_ne _ _ _ (by intro e; subst e; revert hk; decide)]
        exact o k (by intro e; subst e; revert hk; decide) (by intro e; subst e; revert hk; decide)
      · refine ⟨?_, ?_, ?_, fun k hk => ?_, ?_⟩
        · rw [upd_ne _ _ (by omega), upd_ne _ _ (by omega)]; exact v4.1
        · rw [upd_ne (k := 7) (j := 4) _ _ (by omega), upd_ne (k := 7) (j := 5) _ _ (by omega), upd_ne (k := 394 + n) (j := 4) _ _ (by omega), upd_ne (k := 394 + n) (j := 5) _ _ (by omega)]; exact v4.2.1
        · rw [upd_ne _ _ (by omega), upd_ne _ _ (by omega)]; exact v4.2.2.1
        · unfold N at hk
          rw [upd_ne (k := 7) (j := 6) _ _ (by omega), upd_ne (k := 394 + n) (j := 6) _ _ (by omega)] at hk
          have := (vin_get v4.2.2.1 (by decide)).2
          rw [upd_ne (k := 7) (j := 334 + k) _ _ (by omega), upd_ne (k := 394 + n) (j := 334 + k) _ _ (by omega)]
          exact v4.2.2.2.1 k hk
        · rw [upd_at]; exact vin_n (by omega) (by decide)
      · have r1 : (mw (mw (mw (mw M 36 n a) 1 8 (nI (n + 1))) 65 (394 + n) a) 65 7 (nI (n + 1))).1 1 = upd (M.1 1) 8 (nI (n + 1)) := by
          rw [mw_ne _ _ _ (by decide), mw_ne _ _ _ (by decide), mw_at, mw_ne _ _ _ (by decide)]
        have r36 : (mw (mw (mw (mw M 36 n a) 1 8 (nI (n + 1))) 65 (394 + n) a) 65 7 (nI (n + 1))).1 (15 + 21) = upd (M.1 36) n a := by
          show (mw (mw (mw (mw M 36 n a) 1 8 (nI (n + 1))) 65 (394 + n) a) 65 7 (nI (n + 1))).1 36 = _
          rw [mw_ne _ _ _ (by decide), mw_ne _ _ _ (by decide), mw_ne _ _ _ (by decide), mw_at]
        have r35 : (mw (mw (mw (mw M 36 n a) 1 8 (nI (n + 1))) 65 (394 + n) a) 65 7 (nI (n + 1))).1 (15 + 20) = M.1 35 := by
          show (mw (mw (mw (mw M 36 n a) 1 8 (nI (n + 1))) 65 (394 + n) a) 65 7 (nI (n + 1))).1 35 = _
          rw [mw_ne _ _ _ (by decide), mw_ne _ _ _ (by decide), mw_ne _ _ _ (by decide), mw_ne _ _ _ (by decide)]
        have s : ∀ j, j ≠ 7 → j < 394 → (upd (upd (M.1 65) (394 + n) a) 7 (nI (n + 1))) j = M.1 65 j := fun j h1 h2 => by rw [upd_ne _ _ h1, upd_ne _ _ (by omega)]
        have b6 := (vin_get v4.2.2.1 (by decide)).2
        unfold SCA N
        rw [r1, r36, r35, s 3 (by decide) (by decide), s 8 (by decide) (by decide), s 4 (by decide) (by decide), s 5 (by decide) (by decide), s 6 (by decide) (by decide), upd_ne (k := 8) (j := 9) _ _ (by decide), upd_ne (k := 8) (j := 10) _ _ (by decide), upd_ne (k := 8) (j := 12) _ _ (by decide), upd_ne (k := 8) (j := 11) _ _ (by decide), upd_ne (k := 8) (j := 6) _ _ (by decide), upd_at, upd_at, nn_at (by omega)]
        refine ⟨c1, c2, c3, c4, fun k hk => ?_, rfl, fun k hk => ?_⟩
        · rw [s _ (by omega) (by omega)]; exact c5 k hk
        · by_cases e : k = n
          · subst e
            rw [upd_at, upd_ne _ _ (by omega), upd_at]
          · rw [upd_ne (k := n) (j := k) _ _ e, upd_ne (k := 7) (j := 394 + k) _ _ (by omega), upd_ne (k := 394 + n) (j := 394 + k) _ _ (by omega)]
            exact c7 k (by unfold N; omega)
  · refine ite_n (lit_nlt (n := 24) rfl (by omega) (by omega)) ?_
    apply wp_X9_tell_64
    rw [mw_ne _ _ _ (by decide : (65 : Nat) ≠ 6), e7]
    exact ite_p (by rw [show n = 24 by omega]; rfl) ⟨rfl, Inv_err hI 4⟩
/-- a paper more: the row, both sides -/
theorem addPaper_inv {M : Mem} (hI : Inv M) {n a b : Nat} (hn : n = N (M.1 65) 2) (h8 : n < 8) (ha : a < 207) (hb : b < 365) :
    Inv (mw (mw (mw (mw (mw (mw M 23 n (nI a)) 24 n (nI b)) 22 2 (nI (n + 1))) 65 (68 + 2 * n + 0) (nI a)) 65 (68 + 2 * n + 1) (nI b)) 65 2 (nI (n + 1))) := by
  obtain ⟨⟨v1, i1⟩, ⟨v2, i2⟩, ⟨v3, i3⟩, ⟨v4, i4⟩, i5⟩ := id hI.1
  have hT0 : M.1 65 1 = nI (N (M.1 65) 1) := v2.1
  have hT1 : M.1 20 1 = nI (N (M.1 65) 1) := i2.1.trans v2.1
  have hTn := v2.2.1
  have hP0 : M.1 65 2 = nI (N (M.1 65) 2) := v3.1
  have hP1 : M.1 22 2 = nI (N (M.1 65) 2) := i3.1.trans v3.1
  have hPn := v3.2.1
  have hS0 : M.1 65 0 = nI (ns (M.1 65)) := v1.1
  have hS1 : M.1 15 4 = nI (ns (M.1 65)) := i1.1.trans v1.1
  have hSn := v1.2.1
  obtain ⟨M1, hM1⟩ : ∃ M1, M1 = (mw (mw (mw (mw (mw (mw M 23 n (nI a)) 24 n (nI b)) 22 2 (nI (n + 1))) 65 (68 + 2 * n + 0) (nI a)) 65 (68 + 2 * n + 1) (nI b)) 65 2 (nI (n + 1))) := ⟨_, rfl⟩
  rw [← hM1]
  have o : ∀ k, k ≠ 22 → k ≠ 23 → k ≠ 24 → k ≠ 65 → M1.1 k = M.1 k := fun k h1 h2 h3 h4 => by
    rw [hM1, mw_ne _ _ _ h4, mw_ne _ _ _ h4, mw_ne _ _ _ h4, mw_ne _ _ _ h1, mw_ne _ _ _ h3, mw_ne _ _ _ h2]
  have r65 : M1.1 65 = upd (upd (upd (M.1 65) (68 + 2 * n + 0) (nI a)) (68 + 2 * n + 1) (nI b)) 2 (nI (n + 1)) := by
    rw [hM1, mw_at, mw_at, mw_at, mw_ne _ _ _ (by decide), mw_ne _ _ _ (by decide), mw_ne _ _ _ (by decide)]
  have r22 : M1.1 22 2 = nI (n + 1) := by rw [hM1, mw_ne _ _ _ (by decide), mw_ne _ _ _ (by decide), mw_ne _ _ _ (by decide), mw_at, upd_at]
  have r23 : M1.1 23 = upd (M.1 23) n (nI a) := by rw [hM1, mw_ne _ _ _ (by decide), mw_ne _ _ _ (by decide), mw_ne _ _ _ (by decide), mw_ne _ _ _ (by decide), mw_ne _ _ _ (by decide), mw_at]
  have r24 : M1.1 24 = upd (M.1 24) n (nI b) := by rw [hM1, mw_ne _ _ _ (by decide), mw_ne _ _ _ (by decide), mw_ne _ _ _ (by decide), mw_ne _ _ _ (by decide), mw_at, mw_ne _ _ _ (by decide)]
  have x2 : M1.1 65 2 = nI (n + 1) := by rw [r65, upd_at]
  have cnt : N (M1.1 65) 2 = n + 1 := by unfold N; rw [x2, nn_at (by omega)]
  have x0 : M1.1 65 (68 + 2 * n + 0) = nI a := by rw [r65, upd_ne (k := 2) _ _ (by omega), upd_ne _ _ (by omega), upd_at]
  have x1 : M1.1 65 (68 + 2 * n + 1) = nI b := by rw [r65, upd_ne (k := 2) _ _ (by omega), upd_at]
  have xo : ∀ j, j ≠ 2 → (j < 68 + 2 * n ∨ 68 + 2 * n + 1 < j) → M1.1 65 j = M.1 65 j := fun j h1 h2 => by rw [r65, upd_ne _ _ h1, upd_ne _ _ (by omega), upd_ne _ _ (by omega)]
  refine Inv_of hI (fun k hk => o k (by intro e; subst e; revert hk; decide) (by intro e; subst e; revert hk; decide) (by intro e; subst e; revert hk; decide) (by intro e; subst e; revert hk; decide)) ?_
  refine IW_papers hI.1 (fun j h1 h2 h3 => xo j h2 (by omega)) (fun k hk => o k (by intro e; subst e; revert hk; decide) (by intro e; subst e; revert hk; decide) (by intro e; subst e; revert hk; decide) (by intro e; subst e; revert hk; decide)) ?_ ?_
  · refine ⟨by rw [cnt, x2], by omega, fun p hp => ?_⟩
    rw [cnt] at hp
    by_cases e : p = n
    · subst e
      unfold px N
      rw [x0, x1, nn_at (by omega), nn_at (by omega)]
      refine ⟨fun w hw => ?_, ha, hb⟩
      rcases (show w = 0 ∨ w = 1 by omega) with rfl | rfl
      · rw [x0, nn_at (by omega)]
      · rw [x1, nn_at (by omega)]
    · have g := v3.2.2 p (by omega)
      unfold px N
      rw [xo (68 + 2 * p + 0) (by omega) (by omega), xo (68 + 2 * p + 1) (by omega) (by omega)]
      refine ⟨fun w hw => ?_, g.2⟩
      rw [xo (68 + 2 * p + w) (by omega) (by omega)]
      exact g.1 w hw
  · refine ⟨r22.trans x2.symm, fun p hp => ?_⟩
    rw [cnt] at hp
    rw [show (15 + 8 : Nat) = 23 from rfl, show (15 + 9 : Nat) = 24 from rfl, r23, r24]
    by_cases e : p = n
    · subst e
      rw [upd_at, upd_at, x0, x1]; exact ⟨rfl, rfl⟩
    · rw [upd_ne _ _ e, upd_ne _ _ e, xo _ (by omega) (by omega), xo _ (by omega) (by omega)]
      exact i3.2 p (by omega)
theorem P_paper {xs : gX} {d : Nat} {M : Mem} (hI : Inv M) (a b : Int32) : PB xs d mX8_paper mX9_paper [.int a, .int b] M := by
  obtain ⟨⟨v1, i1⟩, ⟨v2, i2⟩, ⟨v3, i3⟩, ⟨v4, i4⟩, i5⟩ := id hI.1
  have hT0 : M.1 65 1 = nI (N (M.1 65) 1) := v2.1
  have hT1 : M.1 20 1 = nI (N (M.1 65) 1) := i2.1.trans v2.1
  have hTn := v2.2.1
  have hP0 : M.1 65 2 = nI (N (M.1 65) 2) := v3.1
  have hP1 : M.1 22 2 = nI (N (M.1 65) 2) := i3.1.trans v3.1
  have hPn := v3.2.1
  have hS0 : M.1 65 0 = nI (ns (M.1 65)) := v1.1
  have hS1 : M.1 15 4 = nI (ns (M.1 65)) := i1.1.trans v1.1
  have hSn := v1.2.1
  rcases arg3 a 207 (by decide) with h | ⟨h0, h1⟩ | ⟨ja, hja, rfl⟩
  · apply wp_X8_paper_0
    refine (ite_p h ?_)
    apply wp_X9_paper_64
    exact (ite_p h ⟨rfl, Inv_err hI 1⟩)
  · apply wp_X8_paper_0
    refine (ite_n h0 (ite_n h1 ?_))
    apply wp_X9_paper_64
    exact (ite_n h0 (ite_p (ar_out (n := 206) rfl rfl (by decide) h1) ⟨rfl, Inv_err hI 1⟩))
  obtain ⟨a1, a2, a3⟩ := ar_in (n := 206) (x := 207) (y := 206) rfl rfl hja (by decide)
  rcases arg3 b 365 (by decide) with h | ⟨h0, h1⟩ | ⟨jb, hjb, rfl⟩
  · apply wp_X8_paper_0
    refine (ite_n a1 (ite_p a2 (ite_p h ?_)))
    apply wp_X9_paper_64
    exact (ite_n a1 (ite_n a3 (ite_p h ⟨rfl, Inv_err hI 1⟩)))
  · apply wp_X8_paper_0
    refine (ite_n a1 (ite_p a2 (ite_n h0 (ite_n h1 ?_))))
    apply wp_X9_paper_64
    exact (ite_n a1 (ite_n a3 (ite_n h0 (ite_p (ar_out (n := 364) rfl rfl (by decide) h1) ⟨rfl, Inv_err hI 1⟩))))
  obtain ⟨b1, b2, b3⟩ := ar_in (n := 364) (x := 365) (y := 364) rfl rfl hjb (by decide)
  obtain ⟨n, hn⟩ : ∃ n, n = N (M.1 65) 2 := ⟨_, rfl⟩
  have hJ := fun h8 => addPaper_inv hI hn h8 hja hjb
  rw [← hn] at hP0 hP1 hPn
  by_cases h8 : n < 8
  · apply wp_X8_paper_0
    refine (ite_n a1 (ite_p a2 (ite_n b1 (ite_p b2 ?_))))
    rw [hP1]
    refine ite_p (lit_lt (n := 8) rfl h8 (by decide)) ⟨vin_n h8 (by decide), ?_⟩
    rw [nI_1, nI_pred, nn_at (by omega)]
    apply wp_X9_paper_64
    refine (ite_n a1 (ite_n a3 (ite_n b1 (ite_n b3 ?_))))
    have z0 : (68 + (2 * nI n)) = nI (68 + 2 * n + 0) := by simp only [i_lit, nI_mul, nI_add, Nat.add_zero]
    have z1 : nI (68 + 2 * n + 0) + 1 = nI (68 + 2 * n + 1) := by simp only [i_lit, nI_add, Nat.add_zero]
    have o65 : (mw (mw (mw M 23 n (nI ja)) 24 n (nI jb)) 22 2 (nI (n + 1))).1 65 = M.1 65 := by rw [mw_ne _ _ _ (by decide), mw_ne _ _ _ (by decide), mw_ne _ _ _ (by decide)]
    rw [o65, hP0, z0, nn_at (by omega)]
    have y1 : (mw (mw (mw (mw M 23 n (nI ja)) 24 n (nI jb)) 22 2 (nI (n + 1))) 65 (68 + 2 * n + 0) (nI ja)).1 65 2 = nI n := by
      rw [mw_at, upd_ne _ _ (by omega), o65, hP0]
    rw [y1, z0, z1, nn_at (by omega)]
    have y2 : (mw (mw (mw (mw (mw M 23 n (nI ja)) 24 n (nI jb)) 22 2 (nI (n + 1))) 65 (68 + 2 * n + 0) (nI ja)) 65 (68 + 2 * n + 1) (nI jb)).1 65 2 = nI n := by
      rw [mw_at, upd_ne _ _ (by omega)]; exact y1
    rw [y2, nI_1, nI_pred]
    exact ite_n (nI_ne (b := 8) (by omega) (by decide) (by omega)) ⟨vin_n (by omega) (by decide), vin_n (by omega) (by decide), rfl, hJ h8⟩
  · apply wp_X8_paper_0
    refine (ite_n a1 (ite_p a2 (ite_n b1 (ite_p b2 ?_))))
    rw [hP1]
    refine ite_n (lit_nlt (n := 8) rfl (by omega) (by omega)) ?_
    apply wp_X9_paper_64
    refine (ite_n a1 (ite_n a3 (ite_n b1 (ite_n b3 ?_))))
    rw [mw_ne _ _ _ (by decide : (65 : Nat) ≠ 6), hP0]
    exact ite_p (by rw [show n = 8 by omega]; rfl) ⟨rfl, Inv_err hI 4⟩
