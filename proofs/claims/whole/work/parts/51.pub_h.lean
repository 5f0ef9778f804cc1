theorem areTwinsC {xs : gX} {d : Nat} {M M1 : Mem} {Q : Int32 → Mem → Prop} {i j : Nat} (hI : IWM M) (h : FR scr M M1) (hi : i < N (M.1 65) 1) (hj : j < N (M.1 65) 1) (hQ : Q (b2 (twB (M.1 65) i j)) M1) : MI xs (d + 3) mX7_areTwins [.ref 1, .int (nI i), .int (nI j)] M1 Q := by
  obtain ⟨-, g1, g2, g3, g4, g5⟩ := txI hI hi
  obtain ⟨-, f1, f2, f3, f4, f5⟩ := txI hI hj
  have hV := hI.1.1
  have n1 := nm_near hV (c := tx (M.1 65) 2 i) (y := tx (M.1 65) 3 i / 365) (by omega)
  have n2 := nm_near hV (c := tx (M.1 65) 2 i) (y := tx (M.1 65) 3 j / 365) (by omega)
  apply wp_X7_areTwins_1
  refine factC (w := 2) hI h hi (by omega) (factC (w := 3) hI h hi (by omega) (factC (w := 3) hI h hj (by omega) (isOfC (w := 1) hI h hi (by omega) ?_)))
  unfold twB at hQ
  cases q1 : und (tx (M.1 65) 0 i) 1
  · rw [q1] at hQ
    exact ite_p rfl hQ
  rw [q1] at hQ
  refine ite_n (by decide) (isOfC (w := 1) hI h hj (by omega) ?_)
  cases q2 : und (tx (M.1 65) 0 j) 1
  · rw [q2] at hQ
    exact ite_p rfl hQ
  rw [q2] at hQ
  refine ite_n (by decide) (factC (w := 2) hI h hj (by omega) ?_)
  by_cases q3 : tx (M.1 65) 2 i = tx (M.1 65) 2 j
  · rw [decide_eq_true q3] at hQ
    refine ite_p (by rw [q3]) ?_
    by_cases q4 : tx (M.1 65) 3 i = tx (M.1 65) 3 j
    · rw [decide_eq_true q4] at hQ
      exact ite_p (by rw [q4]) hQ
    · rw [decide_eq_false q4] at hQ
      refine ite_n (nI_ne (by omega) (by omega) (fun e => q4 e.symm)) (dateC hI h (by omega) g4 (dateC hI h (by omega) f4 ?_))
      by_cases q5 : tx (M.1 65) 3 i % 365 = tx (M.1 65) 3 j % 365
      · rw [decide_eq_true q5] at hQ
        by_cases q6 : nm (M.1 65) (tx (M.1 65) 2 i) (tx (M.1 65) 3 i / 365) = nm (M.1 65) (tx (M.1 65) 2 i) (tx (M.1 65) 3 j / 365)
        · rw [decide_eq_true q6] at hQ
          exact ite_p (by rw [q5, q6]) hQ
        · rw [decide_eq_false q6] at hQ
          exact ite_n (nI_ne (by omega) (by omega) (by omega)) hQ
      · rw [decide_eq_false q5] at hQ
        exact ite_n (nI_ne (by omega) (by omega) (by omega)) hQ
  · rw [decide_eq_false q3] at hQ
    exact ite_n (nI_ne (by omega) (by omega) (fun e => q3 e.symm)) hQ
theorem areTwinsR {xs : gX} {d : Nat} {M M1 : Mem} {Q : Int32 → Mem → Prop} {i j : Nat} (hI : IWM M) (h : RC M M1) (hi : i < N (M.1 65) 1) (hj : j < N (M.1 65) 1) (hQ : Q (b2 (twB (M.1 65) i j)) M1) : MI xs (d + 1) mX9_areTwins [.ref 64, .int (nI i), .int (nI j)] M1 Q := by
  obtain ⟨g0, g1, g2, g3, g4, g5⟩ := txI hI hi
  obtain ⟨f0, f1, f2, f3, f4, f5⟩ := txI hI hj
  have hV := hI.1.1
  have n1 := nm_near hV (c := tx (M.1 65) 2 i) (y := tx (M.1 65) 3 i / 365) (by omega)
  have n2 := nm_near hV (c := tx (M.1 65) 2 i) (y := tx (M.1 65) 3 j / 365) (by omega)
  apply wp_X9_areTwins_64
  have z1 : (200 * nI (tx (M.1 65) 2 i)) + nI (tx (M.1 65) 3 i / 365) = nI (200 * tx (M.1 65) 2 i + tx (M.1 65) 3 i / 365) := by simp only [i_lit, nI_mul, nI_add]
  have z2 : (200 * nI (tx (M.1 65) 2 i)) + nI (tx (M.1 65) 3 j / 365) = nI (200 * tx (M.1 65) 2 i + tx (M.1 65) 3 j / 365) := by simp only [i_lit, nI_mul, nI_add]
  rw [show (28 + (4 * nI i)) + 0 = nI (28 + 4 * i + 0) from zT i 0, show (28 + (4 * nI i)) + 2 = nI (28 + 4 * i + 2) from zT i 2, show (28 + (4 * nI i)) + 3 = nI (28 + 4 * i + 3) from zT i 3, show (28 + (4 * nI j)) + 0 = nI (28 + 4 * j + 0) from zT j 0, show (28 + (4 * nI j)) + 2 = nI (28 + 4 * j + 2) from zT j 2, show (28 + (4 * nI j)) + 3 = nI (28 + 4 * j + 3) from zT j 3, s65 h.1]
  rw [nn_at (n := 28 + 4 * i + 0) (by omega), nn_at (n := 28 + 4 * i + 2) (by omega), nn_at (n := 28 + 4 * i + 3) (by omega), nn_at (n := 28 + 4 * j + 0) (by omega), nn_at (n := 28 + 4 * j + 2) (by omega), nn_at (n := 28 + 4 * j + 3) (by omega), g0 0 (by omega)]
  have vi : ∀ w, w < 4 → vp_in (nI (28 + 4 * i + w)) 418 := fun w hw => vin_n (by omega) (by decide)
  have vj : ∀ w, w < 4 → vp_in (nI (28 + 4 * j + w)) 418 := fun w hw => vin_n (by omega) (by decide)
  refine ⟨vi 0 (by omega), isUnder_ok (w := 1) g1 (by omega) ?_⟩
  unfold twB at hQ
  cases q1 : und (tx (M.1 65) 0 i) 1
  · rw [q1] at hQ
    exact ite_p rfl ⟨vi 3 (by omega), vj 3 (by omega), hQ⟩
  rw [q1] at hQ
  refine ite_n (by decide) ⟨vj 0 (by omega), ?_⟩
  rw [s65 h.1, f0 0 (by omega)]
  refine isUnder_ok (w := 1) f1 (by omega) ?_
  cases q2 : und (tx (M.1 65) 0 j) 1
  · rw [q2] at hQ
    exact ite_p rfl ⟨vi 3 (by omega), vj 3 (by omega), hQ⟩
  rw [q2] at hQ
  refine ite_n (by decide) ⟨vi 2 (by omega), vj 2 (by omega), ?_⟩
  rw [s65 h.1, g0 2 (by omega), f0 2 (by omega), g0 3 (by omega), f0 3 (by omega), show (365 : Int32) = nI 365 from rfl, pk_rem (by omega) (by omega) (by omega), pk_rem (by omega) (by omega) (by omega), pk_div (by omega) (by omega) (by omega), pk_div (by omega) (by omega) (by omega), z1, z2, nn_at (n := 200 * tx (M.1 65) 2 i + tx (M.1 65) 3 i / 365) (by omega), nn_at (n := 200 * tx (M.1 65) 2 i + tx (M.1 65) 3 j / 365) (by omega), h.2 _ _ g3 (by omega), h.2 _ _ g3 (by omega)]
  by_cases q3 : tx (M.1 65) 2 i = tx (M.1 65) 2 j
  · rw [decide_eq_true q3] at hQ
    refine ite_p (by rw [q3]) ⟨vi 3 (by omega), vj 3 (by omega), ?_⟩
    by_cases q4 : tx (M.1 65) 3 i = tx (M.1 65) 3 j
    · rw [decide_eq_true q4] at hQ
      exact ite_p (by rw [q4]) hQ
    · rw [decide_eq_false q4] at hQ
      refine ite_n (nI_ne (by omega) (by omega) q4) ?_
      by_cases q5 : tx (M.1 65) 3 i % 365 = tx (M.1 65) 3 j % 365
      · rw [decide_eq_true q5] at hQ
        refine ite_p (by rw [q5]) ⟨vin_n (by omega) (by decide), vin_n (by omega) (by decide), ?_⟩
        by_cases q6 : nm (M.1 65) (tx (M.1 65) 2 i) (tx (M.1 65) 3 i / 365) = nm (M.1 65) (tx (M.1 65) 2 i) (tx (M.1 65) 3 j / 365)
        · rw [decide_eq_true q6] at hQ
          exact ite_p (by rw [q6]) hQ
        · rw [decide_eq_false q6] at hQ
          exact ite_n (nI_ne (by omega) (by omega) q6) hQ
      · rw [decide_eq_false q5] at hQ
        exact ite_n (nI_ne (by omega) (by omega) q5) hQ
  · rw [decide_eq_false q3] at hQ
    exact ite_n (nI_ne (by omega) (by omega) q3) ⟨vi 3 (by omega), vj 3 (by omega), hQ⟩
theorem twN_b (s : Nat → Int32) (i j : Nat) : (twB s i j = true ∧ twN s i j = 1) ∨ (twB s i j = false ∧ twN s i j = 0) := by
  unfold twN
  cases twB s i j
  · exact .inr ⟨rfl, rfl⟩
  · exact .inl ⟨rfl, rfl⟩
theorem P_twins {xs : gX} {d : Nat} {M : Mem} (hI : Inv M) : PB xs d mX8_twins mX9_twins [] M := by
  obtain ⟨⟨v1, i1⟩, ⟨v2, i2⟩, ⟨v3, i3⟩, ⟨v4, i4⟩, i5⟩ := id hI.1
  have hT0 : M.1 65 1 = nI (N (M.1 65) 1) := v2.1
  have hT1 : M.1 20 1 = nI (N (M.1 65) 1) := i2.1.trans v2.1
  have hTn := v2.2.1
  have hP0 : M.1 65 2 = nI (N (M.1 65) 2) := v3.1
  have hP1 : M.1 22 2 = nI (N (M.1 65) 2) := i3.1.trans v3.1
  have hPn := v3.2.1
  have hS0 : M.1 65 0 = nI (ns (M.1 65)) := v1.1
  have hS1 : M.1 15 4 = nI (ns (M.1 65)) := i1.1.trans v1.1
  have hSn := v1.2.1
  have inC : ∀ (Q : Int32 → Mem → Prop) i, i < N (M.1 65) 1 → (GW xs (d + 7) mX8_twins 4 [(0, .ref 0), (1, .int (nI (cC (twN (M.1 65)) (N (M.1 65) 1) (i + 1)))), (2, .int (nI (i + 1)))] [] M (QI Q)) → ∀ m j, j + m = N (M.1 65) 1 → i < j → GW xs (d + 7) mX8_twins 22 [(0, .ref 0), (1, .int (nI (cC (twN (M.1 65)) (N (M.1 65) 1) i + segS (twN (M.1 65)) i j))), (2, .int (nI i)), (3, .int (nI j))] [] M (QI Q) := by
    intro Q i hi hk m
    induction m with
    | zero =>
      intro j hj hij
      obtain rfl : j = N (M.1 65) 1 := by omega
      apply wp_X8_twins_0_L22
      rw [hT1]
      simp only [nI_1]
      exact ite_n (nI_nltI (by omega) (by omega) (by omega)) hk
    | succ m ih =>
      intro j hj hij
      have ih := ih (j + 1) (by omega) (by omega)
      rw [show segS (twN (M.1 65)) i (j + 1) = segS (twN (M.1 65)) i j + twN (M.1 65) i j from congrArg (segS (twN (M.1 65)) i j + ·) (if_pos hij), ← Nat.add_assoc] at ih
      apply wp_X8_twins_0_L22
      rw [hT1]
      simp only [nI_1]
      refine ite_p (nI_ltI' (by omega) (by omega) (by omega)) (areTwinsC hI.1 FR.rfl' hi (by omega) ?_)
      rcases twN_b (M.1 65) i j with ⟨e1, e2⟩ | ⟨e1, e2⟩
      · rw [e1]; rw [e2] at ih
        exact ite_n (by decide) ih
      · rw [e1]; rw [e2] at ih
        exact ite_p rfl ih
  have outC : ∀ (Q : Int32 → Mem → Prop), Q (nI (cR (twN (M.1 65)) (N (M.1 65) 1))) M → ∀ m i, i + m = N (M.1 65) 1 → GW xs (d + 7) mX8_twins 4 [(0, .ref 0), (1, .int (nI (cC (twN (M.1 65)) (N (M.1 65) 1) i))), (2, .int (nI i))] [] M (QI Q) := by
    intro Q hQ m
    induction m with
    | zero =>
      intro i hi
      obtain rfl : i = N (M.1 65) 1 := by omega
      apply wp_X8_twins_0_L4
      rw [hT1, cC_cR (fun a b => by unfold twN; rw [twB_sym])]
      exact ite_n (nI_nltI (by omega) (by omega) (by omega)) hQ
    | succ m ih =>
      intro i hi
      apply wp_X8_twins_0_L4
      rw [hT1, nI_1]
      refine ite_p (nI_ltI' (by omega) (by omega) (by omega)) ?_
      have h := inC Q i (by omega) (ih (i + 1) (by omega)) (N (M.1 65) 1 - (i + 1)) (i + 1) (by omega) (by omega)
      rw [segS_0 _ _ (Nat.le_refl _)] at h
      exact h
  have inR : ∀ (Q : Int32 → Mem → Prop) M1, RC M M1 → ∀ a, a < N (M.1 65) 1 → (GW xs (d + 7) mX9_twins 8 [(0, .ref 64), (1, .int (nI (cR (twN (M.1 65)) (a + 1)))), (2, .int (nI (a + 1)))] [] M1 (QI Q)) → ∀ m b, b + m = a → GW xs (d + 7) mX9_twins 20 [(0, .ref 64), (1, .int (nI (cR (twN (M.1 65)) a + rowS (twN (M.1 65)) a b))), (2, .int (nI a)), (3, .int (nI b))] [] M1 (QI Q) := by
    intro Q M1 h1 a ha hk m
    induction m with
    | zero =>
      intro b hb
      obtain rfl : b = a := by omega
      apply wp_X9_twins_64_L20
      rw [nI_1]
      exact ite_n (nI_nltI (by omega) (by omega) (by omega)) hk
    | succ m ih =>
      intro b hb
      have ih := ih (b + 1) (by omega)
      rw [show rowS (twN (M.1 65)) a (b + 1) = rowS (twN (M.1 65)) a b + twN (M.1 65) a b from rfl, ← Nat.add_assoc] at ih
      apply wp_X9_twins_64_L20
      rw [Int32.add_zero]
      simp only [nI_1]
      refine ite_p (nI_ltI' (by omega) (by omega) (by omega)) (areTwinsR hI.1 h1 ha (by omega) ?_)
      rcases twN_b (M.1 65) a b with ⟨e1, e2⟩ | ⟨e1, e2⟩
      · rw [e1]; rw [e2] at ih
        exact ite_n (by decide) ih
      · rw [e1]; rw [e2] at ih
        exact ite_p rfl ih
  have outR : ∀ (Q : Int32 → Mem → Prop) M1, RC M M1 → Q (nI (cR (twN (M.1 65)) (N (M.1 65) 1))) M1 → ∀ m i, i + m = N (M.1 65) 1 → GW xs (d + 7) mX9_twins 8 [(0, .ref 64), (1, .int (nI (cR (twN (M.1 65)) i))), (2, .int (nI i))] [] M1 (QI Q) := by
    intro Q M1 h1 hQ m
    induction m with
    | zero =>
      intro i hi
      obtain rfl : i = N (M.1 65) 1 := by omega
      apply wp_X9_twins_64_L8
      rw [s65 h1.1, hT0]
      exact ite_n (nI_nltI (by omega) (by omega) (by omega)) hQ
    | succ m ih =>
      intro i hi
      apply wp_X9_twins_64_L8
      rw [s65 h1.1, hT0]
      refine ite_p (nI_ltI' (by omega) (by omega) (by omega)) ?_
      exact inR Q M1 h1 i (by omega) (ih (i + 1) (by omega)) i 0 (by omega)
  apply wp_X8_twins_0
  refine outC _ ?_ (N (M.1 65) 1) 0 (by omega)
  apply wp_X9_twins_64
  exact namesR hI.1 FR.rfl' (fun M2 h2 => outR _ M2 h2 ⟨rfl, Inv_FR hI h2.1⟩ (N (M.1 65) 1) 0 (by omega))
theorem P_untell {xs : gX} {d : Nat} {M : Mem} (hI : Inv M) (a : Int32) : PB xs d mX8_untell mX9_untell [.int a] M := by
  obtain ⟨⟨v1, i1⟩, ⟨v2, i2⟩, ⟨v3, i3⟩, ⟨v4, i4⟩, i5⟩ := id hI.1
  have hT0 : M.1 65 1 = nI (N (M.1 65) 1) := v2.1
  have hT1 : M.1 20 1 = nI (N (M.1 65) 1) := i2.1.trans v2.1
  have hTn := v2.2.1
  have hP0 : M.1 65 2 = nI (N (M.1 65) 2) := v3.1
  have hP1 : M.1 22 2 = nI (N (M.1 65) 2) := i3.1.trans v3.1
  have hPn := v3.2.1
  have hS0 : M.1 65 0 = nI (ns (M.1 65)) := v1.1
  have hS1 : M.1 15 4 = nI (ns (M.1 65)) := i1.1.trans v1.1
  have hSn := v1.2.1
  rcases arg3 a 2 (by decide) with h | ⟨h0, h1⟩ | ⟨ja, hja, rfl⟩
  · apply wp_X8_untell_0
    refine (ite_p h ?_)
    apply wp_X9_untell_64
    exact (ite_p h ⟨rfl, Inv_err hI 1⟩)
  · apply wp_X8_untell_0
    refine (ite_n h0 (ite_n h1 ?_))
    apply wp_X9_untell_64
    exact (ite_n h0 (ite_p (ar_out (n := 1) rfl rfl (by decide) h1) ⟨rfl, Inv_err hI 1⟩))
  obtain ⟨a1, a2, a3⟩ := ar_in (n := 1) (x := 2) (y := 1) rfl rfl hja (by decide)
  have step : ∀ u, u < 2 → ja = u → ∀ b, (u = 0 → b = 29) → (u = 1 → b = 32) → IW (mw (mw M b 3 0) 65 (84 + 125 * u) 0) 1 15 ((mw (mw M b 3 0) 65 (84 + 125 * u) 0).1 65) ∧ Inv (mw (mw M b 3 0) 65 (84 + 125 * u) 0) := by
    intro u hu _ b hb0 hb1
    have hb : b = 29 ∨ b = 32 := by omega
    have w : ∀ k, k ≠ b → k ≠ 65 → (mw (mw M b 3 0) 65 (84 + 125 * u) 0).1 k = M.1 k := fun k h1 h2 => by rw [mw_ne _ _ _ h2, mw_ne _ _ _ h1]
    have e65 : (mw (mw M b 3 0) 65 (84 + 125 * u) 0).1 65 = upd (M.1 65) (84 + 125 * u) 0 := by
      rw [mw_at, mw_ne _ _ _ (by omega)]
    have eb : (mw (mw M b 3 0) 65 (84 + 125 * u) 0).1 b = upd (M.1 b) 3 0 := by
      rw [mw_ne _ _ _ (by omega), mw_at]
    have key : IW (mw (mw M b 3 0) 65 (84 + 125 * u) 0) 1 15 ((mw (mw M b 3 0) 65 (84 + 125 * u) 0).1 65) := by
      rw [e65]
      refine IW_laws hI.1 (fun j h1 h2 => by rw [upd_ne _ _ (by omega)]) (fun k hk => ?_) ?_
      · refine w k ?_ ?_
        · intro e; subst e; rcases hb with rfl | rfl <;> revert hk <;> decide
        · intro e; subst e; revert hk; decide
      · obtain ⟨l1, l2⟩ := id i5
        rcases (show u = 0 ∨ u = 1 by omega) with rfl | rfl
        · obtain rfl := hb0 rfl
          refine ⟨?_, ?_⟩
          · show LAW ((mw (mw M 29 3 0) 65 (84 + 125 * 0) 0).1 29 2) ((mw (mw M 29 3 0) 65 (84 + 125 * 0) 0).1 29 3) _ 0 _
            rw [eb, upd_ne _ _ (by decide), upd_at]
            exact ⟨l1.1, .inl ⟨upd_at _ _ _, rfl⟩⟩
          · show LAW ((mw (mw M 29 3 0) 65 (84 + 125 * 0) 0).1 32 2) ((mw (mw M 29 3 0) 65 (84 + 125 * 0) 0).1 32 3) ((mw (mw M 29 3 0) 65 (84 + 125 * 0) 0).1 33) 1 _
            rw [w 32 (by decide) (by decide), w 33 (by decide) (by decide)]
            exact LAW_congr (fun j h1 h2 => upd_ne _ _ (by omega)) l2
        · obtain rfl := hb1 rfl
          refine ⟨?_, ?_⟩
          · show LAW ((mw (mw M 32 3 0) 65 (84 + 125 * 1) 0).1 29 2) ((mw (mw M 32 3 0) 65 (84 + 125 * 1) 0).1 29 3) ((mw (mw M 32 3 0) 65 (84 + 125 * 1) 0).1 30) 0 _
            rw [w 29 (by decide) (by decide), w 30 (by decide) (by decide)]
            exact LAW_congr (fun j h1 h2 => upd_ne _ _ (by omega)) l1
          · show LAW ((mw (mw M 32 3 0) 65 (84 + 125 * 1) 0).1 32 2) ((mw (mw M 32 3 0) 65 (84 + 125 * 1) 0).1 32 3) _ 1 _
            rw [eb, upd_ne _ _ (by decide), upd_at]
            exact ⟨l2.1, .inl ⟨upd_at _ _ _, rfl⟩⟩
    refine ⟨key, Inv_of hI (fun k hk => w k ?_ ?_) key⟩
    · intro e; subst e; rcases hb with rfl | rfl <;> revert hk <;> decide
    · intro e; subst e; revert hk; decide
  have z : 84 + (125 * nI ja) = nI (84 + 125 * ja) := by simp only [i_lit, nI_mul, nI_add]
  have had : ∀ u, u < 2 → ∀ sz sd cd, LAW sz sd cd u (M.1 65) → (sd = 0 ∧ ¬ 0 < M.1 65 (84 + 125 * u)) ∨ (¬ sd = 0 ∧ 0 < M.1 65 (84 + 125 * u)) := by
    intro u hu sz sd cd hL
    rcases hL.2 with ⟨e1, e2⟩ | ⟨n, n1', n60, hn, hsd, -⟩
    · exact .inl ⟨e2, by rw [e1]; decide⟩
    · exact .inr ⟨by rw [hsd]; decide, by rw [hn]; exact nI_ltI' (a := 0) (by omega) (by omega) (by omega)⟩
  have rf : ∀ (M1 : Mem) (Q : Int32 → Mem → Prop), M1.1 65 = M.1 65 → (if 0 < M.1 65 (84 + 125 * ja) then Q 1 (mw M1 65 (84 + 125 * ja) 0) else Q 0 (mw M1 65 (84 + 125 * ja) 0)) → MI xs (d + 7) mX9_untell [.ref 64, .int (nI ja)] M1 Q := by
    intro M1 Q e h
    apply wp_X9_untell_64
    refine (ite_n a1 (ite_n a3 ?_))
    rw [e, z, nn_at (by omega)]
    exact ⟨vin_n (by omega) (by decide), h⟩
  obtain ⟨l1, l2⟩ := id i5
  rcases (show ja = 0 ∨ ja = 1 by omega) with rfl | rfl
  · apply wp_X8_untell_0
    refine (ite_n a1 (ite_p a2 ?_))
    refine ite_n (by decide) ?_
    rcases had 0 (by omega) _ _ _ l1 with ⟨e1, e2⟩ | ⟨e1, e2⟩
    · refine ite_p e1 (rf _ _ (mw_ne _ _ _ (by decide)) ?_)
      rw [if_neg e2]
      exact ⟨rfl, (step 0 (by omega) rfl 29 (fun _ => rfl) (fun h => by cases h)).2⟩
    · refine ite_n e1 (rf _ _ (mw_ne _ _ _ (by decide)) ?_)
      rw [if_pos e2]
      exact ⟨rfl, (step 0 (by omega) rfl 29 (fun _ => rfl) (fun h => by cases h)).2⟩
  · apply wp_X8_untell_0
    refine (ite_n a1 (ite_p a2 ?_))
    refine ite_p rfl ?_
    rcases had 1 (by omega) _ _ _ l2 with ⟨e1, e2⟩ | ⟨e1, e2⟩
    · refine ite_p e1 (rf _ _ (mw_ne _ _ _ (by decide)) ?_)
      rw [if_neg e2]
      exact ⟨rfl, (step 1 (by omega) rfl 32 (fun h => by cases h) (fun _ => rfl)).2⟩
    · refine ite_n e1 (rf _ _ (mw_ne _ _ _ (by decide)) ?_)
      rw [if_pos e2]
      exact ⟨rfl, (step 1 (by omega) rfl 32 (fun h => by cases h) (fun _ => rfl)).2⟩
