theorem upd4_at (f : Nat → Int32) (b : Nat) (v0 v1 v2 v3 : Int32) : (upd (upd (upd (upd f (b + 0) v0) (b + 1) v1) (b + 2) v2) (b + 3) v3) (b + 0) = v0 ∧ (upd (upd (upd (upd f (b + 0) v0) (b + 1) v1) (b + 2) v2) (b + 3) v3) (b + 1) = v1 ∧ (upd (upd (upd (upd f (b + 0) v0) (b + 1) v1) (b + 2) v2) (b + 3) v3) (b + 2) = v2 ∧ (upd (upd (upd (upd f (b + 0) v0) (b + 1) v1) (b + 2) v2) (b + 3) v3) (b + 3) = v3 := by
  refine ⟨?_, ?_, ?_, ?_⟩
  · rw [upd_ne _ _ (by omega), upd_ne _ _ (by omega), upd_ne _ _ (by omega), upd_at]
  · rw [upd_ne _ _ (by omega), upd_ne _ _ (by omega), upd_at]
  · rw [upd_ne _ _ (by omega), upd_at]
  · rw [upd_at]
theorem upd4_ne (f : Nat → Int32) {b j : Nat} (v0 v1 v2 v3 : Int32) (h : j < b ∨ b + 3 < j) : (upd (upd (upd (upd f (b + 0) v0) (b + 1) v1) (b + 2) v2) (b + 3) v3) j = f j := by
  rw [upd_ne _ _ (by omega), upd_ne _ _ (by omega), upd_ne _ _ (by omega), upd_ne _ _ (by omega)]
theorem P_thing {xs : gX} {d : Nat} {M : Mem} (hI : Inv M) (a b c : Int32) : PB xs d mX8_thing mX9_thing [.int a, .int b, .int c] M := by
  obtain ⟨⟨v1, i1⟩, ⟨v2, i2⟩, ⟨v3, i3⟩, ⟨v4, i4⟩, i5⟩ := id hI.1
  have hT0 : M.1 65 1 = nI (N (M.1 65) 1) := v2.1
  have hT1 : M.1 20 1 = nI (N (M.1 65) 1) := i2.1.trans v2.1
  have hTn := v2.2.1
  have hP0 : M.1 65 2 = nI (N (M.1 65) 2) := v3.1
  have hP1 : M.1 22 2 = nI (N (M.1 65) 2) := i3.1.trans v3.1
  have hPn := v3.2.1
  have hS0 : M.1 65 0 = nI (ns (M.1 65)) := v1.1
  have hS1 : M.1 15 4 = nI (ns (M.1 65)) := i1.1.trans v1.1
  have hSn := v1.2.1
  rcases arg3 a 70 (by decide) with h | ⟨h0, h1⟩ | ⟨ja, hja, rfl⟩
  · apply wp_X8_thing_0
    refine (ite_p h ?_)
    apply wp_X9_thing_64
    exact (ite_p h ⟨rfl, Inv_err hI 1⟩)
  · apply wp_X8_thing_0
    refine (ite_n h0 (ite_n h1 ?_))
    apply wp_X9_thing_64
    exact (ite_n h0 (ite_p (ar_out (n := 69) rfl rfl (by decide) h1) ⟨rfl, Inv_err hI 1⟩))
  obtain ⟨a1, a2, a3⟩ := ar_in (n := 69) (x := 70) (y := 69) rfl rfl hja (by decide)
  rcases arg3 b 4 (by decide) with h | ⟨h0, h1⟩ | ⟨jb, hjb, rfl⟩
  · apply wp_X8_thing_0
    refine (ite_n a1 (ite_p a2 (ite_p h ?_)))
    apply wp_X9_thing_64
    exact (ite_n a1 (ite_n a3 (ite_p h ⟨rfl, Inv_err hI 1⟩)))
  · apply wp_X8_thing_0
    refine (ite_n a1 (ite_p a2 (ite_n h0 (ite_n h1 ?_))))
    apply wp_X9_thing_64
    exact (ite_n a1 (ite_n a3 (ite_n h0 (ite_p (ar_out (n := 3) rfl rfl (by decide) h1) ⟨rfl, Inv_err hI 1⟩))))
  obtain ⟨b1, b2, b3⟩ := ar_in (n := 3) (x := 4) (y := 3) rfl rfl hjb (by decide)
  rcases arg3 c 73000 (by decide) with h | ⟨h0, h1⟩ | ⟨jc, hjc, rfl⟩
  · apply wp_X8_thing_0
    refine (ite_n a1 (ite_p a2 (ite_n b1 (ite_p b2 (ite_p h ?_)))))
    apply wp_X9_thing_64
    exact (ite_n a1 (ite_n a3 (ite_n b1 (ite_n b3 (ite_p h ⟨rfl, Inv_err hI 1⟩)))))
  · apply wp_X8_thing_0
    refine (ite_n a1 (ite_p a2 (ite_n b1 (ite_p b2 (ite_n h0 (ite_n h1 ?_))))))
    apply wp_X9_thing_64
    exact (ite_n a1 (ite_n a3 (ite_n b1 (ite_n b3 (ite_n h0 (ite_p (ar_out (n := 72999) rfl rfl (by decide) h1) ⟨rfl, Inv_err hI 1⟩))))))
  obtain ⟨c1, c2, c3⟩ := ar_in (n := 72999) (x := 73000) (y := 72999) rfl rfl hjc (by decide)
  obtain ⟨n, hn⟩ : ∃ n, n = N (M.1 65) 1 := ⟨_, rfl⟩
  rw [← hn] at hT0 hT1 hTn
  have q1 : nI ja / 10 = nI (ja / 10) := pk_div (d := 10) (by omega) (by decide) (by decide)
  have q2 : nI ja - nI ja / 10 * 10 = nI (ja % 10) := pk_rem (d := 10) (by omega) (by decide) (by decide)
  by_cases h10 : n < 10
  · apply wp_X8_thing_0
    refine (ite_n a1 (ite_p a2 (ite_n b1 (ite_p b2 (ite_n c1 (ite_p c2 ?_))))))
    rw [hT1]
    refine ite_p (lit_lt (n := 10) rfl h10 (by decide)) ?_
    apply wp_X3_add_20
    rw [hT1, q2, q1]
    have z : ∀ w, w < 4 → (nI n * 4) + nI w = nI (4 * n + w) := fun w _ => by simp only [i_lit, nI_mul, nI_add, Nat.mul_comm]
    rw [show (nI n * 4) + 0 = nI (4 * n + 0) from z 0 (by decide), show (nI n * 4) + 1 = nI (4 * n + 1) from z 1 (by decide), show (nI n * 4) + 2 = nI (4 * n + 2) from z 2 (by decide), show (nI n * 4) + 3 = nI (4 * n + 3) from z 3 (by decide), nn_at (by omega), nn_at (by omega), nn_at (by omega), nn_at (by omega), nI_1]
    refine ite_p (lit_lt (n := 10) rfl h10 (by decide)) ⟨vin_n (by omega) (by decide), vin_n (by omega) (by decide), vin_n (by omega) (by decide), vin_n (by omega) (by decide), ?_⟩
    rw [mw_at (k := 20), upd_at, nI_pred]
    obtain ⟨M1, hM1⟩ : ∃ M1, M1 = mw (mw (mw (mw (mw M 21 (4 * n + 0) (nI (ja / 10))) 21 (4 * n + 1) (nI (ja % 10))) 21 (4 * n + 2) (nI jb)) 21 (4 * n + 3) (nI jc)) 20 1 (nI (n + 1)) := ⟨_, rfl⟩
    rw [← hM1]
    have o1 : ∀ k, k ≠ 20 → k ≠ 21 → M1.1 k = M.1 k := fun k h1 h2 => by rw [hM1, mw_ne _ _ _ h1, mw_ne _ _ _ h2, mw_ne _ _ _ h2, mw_ne _ _ _ h2, mw_ne _ _ _ h2]
    have r20 : M1.1 20 1 = nI (n + 1) := by rw [hM1, mw_at, upd_at]
    have r21 : M1.1 21 = upd (upd (upd (upd (M.1 21) (4 * n + 0) (nI (ja / 10))) (4 * n + 1) (nI (ja % 10))) (4 * n + 2) (nI jb)) (4 * n + 3) (nI jc) := by
      rw [hM1, mw_ne _ _ _ (by decide), mw_at, mw_at, mw_at, mw_at]
    apply wp_X9_thing_64
    refine (ite_n a1 (ite_n a3 (ite_n b1 (ite_n b3 (ite_n c1 (ite_n c3 ?_))))))
    have r65 := o1 65 (by decide) (by decide)
    rw [r65, hT0, q2, q1]
    have y : ∀ w, w < 4 → (28 + (4 * nI n)) + nI w = nI (28 + 4 * n + w) := fun w _ => by simp only [i_lit, nI_mul, nI_add]
    rw [show (28 + (4 * nI n)) + 0 = nI (28 + 4 * n + 0) from y 0 (by decide), show (28 + (4 * nI n)) + 1 = nI (28 + 4 * n + 1) from y 1 (by decide), show (28 + (4 * nI n)) + 2 = nI (28 + 4 * n + 2) from y 2 (by decide), show (28 + (4 * nI n)) + 3 = nI (28 + 4 * n + 3) from y 3 (by decide), nn_at (by omega), nn_at (by omega), nn_at (by omega), nn_at (by omega)]
    refine ite_n (nI_ne (b := 10) (by omega) (by decide) (by omega)) ⟨vin_n (by omega) (by decide), vin_n (by omega) (by decide), vin_n (by omega) (by decide), vin_n (by omega) (by decide), ?_⟩
    have r65' : (mw (mw (mw (mw M1 65 (28 + 4 * n + 0) (nI (ja / 10))) 65 (28 + 4 * n + 1) (nI (ja % 10))) 65 (28 + 4 * n + 2) (nI jb)) 65 (28 + 4 * n + 3) (nI jc)).1 65 = upd (upd (upd (upd (M.1 65) (28 + 4 * n + 0) (nI (ja / 10))) (28 + 4 * n + 1) (nI (ja % 10))) (28 + 4 * n + 2) (nI jb)) (28 + 4 * n + 3) (nI jc) := by
      rw [mw_at, mw_at, mw_at, mw_at, r65]
    rw [r65', upd4_ne _ _ _ _ _ (by omega), hT0, nI_1, nI_pred]
    refine ⟨rfl, Inv_of hI (fun k hk => ?_) ?_⟩
    · have e5 : k ≠ 65 := by intro e; subst e; revert hk; decide
      rw [mw_ne _ _ _ e5, mw_ne _ _ _ e5, mw_ne _ _ _ e5, mw_ne _ _ _ e5, mw_ne _ _ _ e5]
      exact o1 k (by intro e; subst e; revert hk; decide) (by intro e; subst e; revert hk; decide)
    · rw [mw_at, r65']
      have cnt : N (upd (upd (upd (upd (upd (M.1 65) (28 + 4 * n + 0) (nI (ja / 10))) (28 + 4 * n + 1) (nI (ja % 10))) (28 + 4 * n + 2) (nI jb)) (28 + 4 * n + 3) (nI jc)) 1 (nI (n + 1))) 1 = n + 1 := by
        unfold N; rw [upd_at, nn_at (by omega)]
      obtain ⟨u0, u1, u2, u3⟩ := upd4_at (M.1 65) (28 + 4 * n) (nI (ja / 10)) (nI (ja % 10)) (nI jb) (nI jc)
      refine IW_things hI.1 (fun j h1 h2 h3 => ?_) (fun k hk => ?_) ?_ ?_
      · rw [upd_ne _ _ h2, upd4_ne _ _ _ _ _ (by omega)]
      · have e5 : k ≠ 65 := by intro e; subst e; revert hk; decide
        rw [mw_ne _ _ _ e5, mw_ne _ _ _ e5, mw_ne _ _ _ e5, mw_ne _ _ _ e5, mw_ne _ _ _ e5]
        exact o1 k (by intro e; subst e; revert hk; decide) (by intro e; subst e; revert hk; decide)
      · refine ⟨by rw [cnt, upd_at], by omega, fun t ht => ?_⟩
        rw [cnt] at ht
        by_cases e : t = n
        · subst e
          refine ⟨fun w hw => ?_, ?_⟩
          · rcases q4 hw with rfl | rfl | rfl | rfl
            · rw [tx, N, upd_ne _ _ (by omega), u0, nn_at (by omega)]
            · rw [tx, N, upd_ne _ _ (by omega), u1, nn_at (by omega)]
            · rw [tx, N, upd_ne _ _ (by omega), u2, nn_at (by omega)]
            · rw [tx, N, upd_ne _ _ (by omega), u3, nn_at (by omega)]
          · unfold tx N
            rw [upd_ne (k := 1) (j := 28 + 4 * t + 0) _ _ (by omega), upd_ne (k := 1) (j := 28 + 4 * t + 1) _ _ (by omega), upd_ne (k := 1) (j := 28 + 4 * t + 2) _ _ (by omega), upd_ne (k := 1) (j := 28 + 4 * t + 3) _ _ (by omega), u0, u1, u2, u3, nn_at (by omega), nn_at (by omega), nn_at (by omega), nn_at (by omega)]
            omega
        · have g := v2.2.2 t (by rw [← hn]; omega)
          have s : ∀ w, w < 4 → (upd (upd (upd (upd (upd (M.1 65) (28 + 4 * n + 0) (nI (ja / 10))) (28 + 4 * n + 1) (nI (ja % 10))) (28 + 4 * n + 2) (nI jb)) (28 + 4 * n + 3) (nI jc)) 1 (nI (n + 1))) (28 + 4 * t + w) = M.1 65 (28 + 4 * t + w) := fun w hw => by
            rw [upd_ne _ _ (by omega), upd4_ne _ _ _ _ _ (by omega)]
          unfold tx N
          rw [s 0 (by omega), s 1 (by omega), s 2 (by omega), s 3 (by omega)]
          exact ⟨fun w hw => by rw [s w hw]; exact g.1 w hw, g.2⟩
      · refine ⟨?_, fun t ht w hw => ?_⟩
        · rw [mw_ne _ _ _ (by decide), mw_ne _ _ _ (by decide), mw_ne _ _ _ (by decide), mw_ne _ _ _ (by decide), mw_ne _ _ _ (by decide), upd_at]; exact r20
        · rw [cnt] at ht
          rw [mw_ne _ _ _ (by decide), mw_ne _ _ _ (by decide), mw_ne _ _ _ (by decide), mw_ne _ _ _ (by decide), mw_ne _ _ _ (by decide), show (15 + 6 : Nat) = 21 from rfl, r21, upd_ne (k := 1) (j := 28 + 4 * t + w) _ _ (by omega)]
          obtain ⟨x0, x1, x2, x3⟩ := upd4_at (M.1 21) (4 * n) (nI (ja / 10)) (nI (ja % 10)) (nI jb) (nI jc)
          by_cases e : t = n
          · subst e
            rcases q4 hw with rfl | rfl | rfl | rfl
            · rw [x0, u0]
            · rw [x1, u1]
            · rw [x2, u2]
            · rw [x3, u3]
          · rw [upd4_ne _ _ _ _ _ (by omega), upd4_ne _ _ _ _ _ (by omega)]
            exact i2.2 t (by rw [← hn]; omega) w hw
  · apply wp_X8_thing_0
    refine (ite_n a1 (ite_p a2 (ite_n b1 (ite_p b2 (ite_n c1 (ite_p c2 ?_))))))
    rw [hT1]
    refine ite_n (lit_nlt (n := 10) rfl (by omega) (by omega)) ?_
    apply wp_X9_thing_64
    refine (ite_n a1 (ite_n a3 (ite_n b1 (ite_n b3 (ite_n c1 (ite_n c3 ?_))))))
    rw [mw_ne _ _ _ (by decide : (65 : Nat) ≠ 6), hT0]
    exact ite_p (by rw [show n = 10 by omega]; rfl) ⟨rfl, Inv_err hI 4⟩
/-- a number of a thing -/
theorem fact_ok {xs : gX} {d : Nat} {M : Mem} {Q : Int32 → Mem → Prop} {s : Nat → Int32} {t w : Nat} (hV : VT s) (hR : ROL M 15 s) (ht : t < N s 1) (hw : w < 4) (hQ : Q (nI (tx s w t)) M) : MI xs (d + 1) mX3_fact [.ref 20, .int (nI t), .int (nI w)] M Q := by
  have h10 := hV.2.1
  apply wp_X3_fact_20
  have e : (nI t * 4) + nI w = nI (4 * t + w) := by simp only [i_lit, nI_mul, nI_add, Nat.mul_comm]
  rw [e, nn_at (by omega)]
  refine ite_n (nI_lt0 (by omega)) (ite_p (lit_lt (n := 40) rfl (by omega) (by decide)) ⟨vin_n (by omega) (by decide), ?_⟩)
  have := hR.2 t ht w hw
  rw [show M.1 21 (4 * t + w) = _ from this, (hV.2.2 t ht).1 w hw]
  exact hQ
theorem P_burn {xs : gX} {d : Nat} {M : Mem} (hI : Inv M) : PB xs d mX8_burn mX9_burn [] M := by
  obtain ⟨⟨v1, i1⟩, ⟨v2, i2⟩, ⟨v3, i3⟩, ⟨v4, i4⟩, i5⟩ := id hI.1
  have hT0 : M.1 65 1 = nI (N (M.1 65) 1) := v2.1
  have hT1 : M.1 20 1 = nI (N (M.1 65) 1) := i2.1.trans v2.1
  have hTn := v2.2.1
  have hP0 : M.1 65 2 = nI (N (M.1 65) 2) := v3.1
  have hP1 : M.1 22 2 = nI (N (M.1 65) 2) := i3.1.trans v3.1
  have hPn := v3.2.1
  have hS0 : M.1 65 0 = nI (ns (M.1 65)) := v1.1
  have hS1 : M.1 15 4 = nI (ns (M.1 65)) := i1.1.trans v1.1
  have hSn := v1.2.1
  apply wp_X8_burn_0
  rw [hP1]
  by_cases h0 : N (M.1 65) 2 = 0
  · rw [h0]
    refine ite_p rfl ?_
    apply wp_X9_burn_64
    refine ite_p ?_ ⟨rfl, Inv_err hI 3⟩
    rw [mw_ne _ _ _ (by decide : (65 : Nat) ≠ 6), hP0, h0]; rfl
  · refine ite_n (nI_ne (b := 0) (by omega) (by decide) h0) ?_
    rw [show nI (N (M.1 65) 2) - 1 = nI (N (M.1 65) 2 - 1) from pk_sub (a := N (M.1 65) 2) (b := 1) (by omega)]
    apply wp_X9_burn_64
    rw [mw_ne _ _ _ (by decide : (65 : Nat) ≠ 22), hP0]
    refine ite_n (nI_ne (b := 0) (by omega) (by decide) h0) ?_
    rw [show nI (N (M.1 65) 2) - 1 = nI (N (M.1 65) 2 - 1) from pk_sub (a := N (M.1 65) 2) (b := 1) (by omega)]
    refine ⟨rfl, Inv_of hI (fun k hk => ?_) ?_⟩
    · rw [mw_ne _ _ _ (by intro e; subst e; revert hk; decide), mw_ne _ _ _ (by intro e; subst e; revert hk; decide)]
    · rw [mw_at, mw_ne _ _ _ (by decide : (65 : Nat) ≠ 22)]
      have cnt : N (upd (M.1 65) 2 (nI (N (M.1 65) 2 - 1))) 2 = N (M.1 65) 2 - 1 := by
        show ((upd (M.1 65) 2 (nI (N (M.1 65) 2 - 1))) 2).toNatClampNeg = _
        rw [upd_at, nn_at (by omega)]
      refine IW_papers hI.1 (fun j h1 h2 h3 => upd_ne _ _ h2) (fun k hk => ?_) ?_ ?_
      · rw [mw_ne _ _ _ (by intro e; subst e; revert hk; decide), mw_ne _ _ _ (by intro e; subst e; revert hk; decide)]
      · refine ⟨by rw [cnt, upd_at], by omega, fun p hp => ?_⟩
        rw [cnt] at hp
        have g := v3.2.2 p (by omega)
        unfold px N
        rw [upd_ne _ _ (by omega), upd_ne _ _ (by omega)]
        refine ⟨fun w hw => ?_, g.2⟩
        rw [upd_ne _ _ (by omega)]
        exact g.1 w hw
      · refine ⟨?_, fun p hp => ?_⟩
        · rw [mw_ne _ _ _ (by decide), mw_at, upd_at, upd_at]
        · rw [cnt] at hp
          rw [mw_ne _ _ _ (by decide), mw_ne _ _ _ (by decide), mw_ne _ _ _ (by decide), mw_ne _ _ _ (by decide), upd_ne _ _ (by omega), upd_ne _ _ (by omega)]
          exact i3.2 p (by omega)
theorem P_comet {xs : gX} {d : Nat} {M : Mem} (hI : Inv M) (a b : Int32) : PB xs d mX8_comet mX9_comet [.int a, .int b] M := by
  obtain ⟨⟨v1, i1⟩, ⟨v2, i2⟩, ⟨v3, i3⟩, ⟨v4, i4⟩, i5⟩ := id hI.1
  have hT0 : M.1 65 1 = nI (N (M.1 65) 1) := v2.1
  have hT1 : M.1 20 1 = nI (N (M.1 65) 1) := i2.1.trans v2.1
  have hTn := v2.2.1
  have hP0 : M.1 65 2 = nI (N (M.1 65) 2) := v3.1
  have hP1 : M.1 22 2 = nI (N (M.1 65) 2) := i3.1.trans v3.1
  have hPn := v3.2.1
  have hS0 : M.1 65 0 = nI (ns (M.1 65)) := v1.1
  have hS1 : M.1 15 4 = nI (ns (M.1 65)) := i1.1.trans v1.1
  have hSn := v1.2.1
  rcases arg3 a 73000 (by decide) with h | ⟨h0, h1⟩ | ⟨ja, hja, rfl⟩
  · apply wp_X8_comet_0
    refine (ite_p h ?_)
    apply wp_X9_comet_64
    exact (ite_p h ⟨rfl, Inv_err hI 1⟩)
  · apply wp_X8_comet_0
    refine (ite_n h0 (ite_n h1 ?_))
    apply wp_X9_comet_64
    exact (ite_n h0 (ite_p (ar_out (n := 72999) rfl rfl (by decide) h1) ⟨rfl, Inv_err hI 1⟩))
  obtain ⟨a1, a2, a3⟩ := ar_in (n := 72999) (x := 73000) (y := 72999) rfl rfl hja (by decide)
  rcases argY b with h | ⟨h0, h1⟩ | ⟨jb, hjb, hkb, rfl⟩
  · apply wp_X8_comet_0
    refine (ite_n a1 (ite_p a2 (ite_p h ?_)))
    apply wp_X9_comet_64
    exact (ite_n a1 (ite_n a3 (ite_p h ⟨rfl, Inv_err hI 1⟩)))
  · apply wp_X8_comet_0
    refine (ite_n a1 (ite_p a2 (ite_n h0 (ite_p h1 ?_))))
    apply wp_X9_comet_64
    exact (ite_n a1 (ite_n a3 (ite_n h0 (ite_p h1 ⟨rfl, Inv_err hI 1⟩))))
  obtain ⟨b1, b2⟩ := ar_inY hjb hkb
  apply wp_X8_comet_0
  refine (ite_n a1 (ite_p a2 (ite_n b1 (ite_n b2 ?_))))
  have e1 : nI jb * 365 = nI (jb * 365) := nI_mul jb 365
  have e2 : 365 * nI jb = nI (jb * 365) := by rw [Nat.mul_comm]; exact nI_mul 365 jb
  rw [e1]
  refine ⟨nI_ne (b := 0) (by omega) (by decide) (by omega), ?_⟩
  apply wp_X9_comet_64
  refine (ite_n a1 (ite_n a3 (ite_n b1 (ite_n b2 ?_))))
  rw [e2]
  refine ⟨nI_ne (b := 0) (by omega) (by decide) (by omega), rfl, Inv_of hI (fun k hk => ?_) ?_⟩
  · rw [mw_ne _ _ _ (by intro e; subst e; revert hk; decide), mw_ne _ _ _ (by intro e; subst e; revert hk; decide), mw_ne _ _ _ (by intro e; subst e; revert hk; decide), mw_ne _ _ _ (by intro e; subst e; revert hk; decide)]
  · have e65 : (mw (mw (mw (mw M 1 11 (nI ja)) 1 12 (nI jb)) 65 4 (nI ja)) 65 5 (nI jb)).1 65 = upd (upd (M.1 65) 4 (nI ja)) 5 (nI jb) := by
      rw [mw_at, mw_at, mw_ne _ _ _ (by decide), mw_ne _ _ _ (by decide)]
    have w1 : (mw (mw (mw (mw M 1 11 (nI ja)) 1 12 (nI jb)) 65 4 (nI ja)) 65 5 (nI jb)).1 1 = upd (upd (M.1 1) 11 (nI ja)) 12 (nI jb) := by
      rw [mw_ne _ _ _ (by decide), mw_ne _ _ _ (by decide), mw_at, mw_at]
    have w2 : ∀ k, k ≠ 1 → k ≠ 65 → (mw (mw (mw (mw M 1 11 (nI ja)) 1 12 (nI jb)) 65 4 (nI ja)) 65 5 (nI jb)).1 k = M.1 k := fun k h1 h2 => by
      rw [mw_ne _ _ _ h2, mw_ne _ _ _ h2, mw_ne _ _ _ h1, mw_ne _ _ _ h1]
    rw [e65]
    obtain ⟨c1, c2, c3, c4, c5, c6, c7⟩ := id i4
    refine IW_sca hI.1 (fun j h1 h2 => by rw [upd_ne _ _ (by omega), upd_ne _ _ (by omega)]) (fun k hk => w2 k (by intro e; subst e; revert hk; decide) (by intro e; subst e; revert hk; decide)) ?_ ?_
    · refine ⟨?_, ?_, ?_⟩
      · rw [upd_ne _ _ (by decide), upd_ne _ _ (by decide)]; exact v4.1
      · refine .inr ⟨?_, ?_, ?_⟩
        · rw [upd_ne _ _ (by decide), upd_at]; exact vin_n hja (by decide)
        · rw [upd_at]; exact vin_n (by omega) (by decide)
        · rw [upd_at]; exact nI_ne (b := 0) (by omega) (by decide) (by omega)
      · unfold N
        rw [upd_ne _ _ (by decide), upd_ne _ _ (by decide), upd_ne _ _ (by decide), upd_ne _ _ (by decide)]
        exact ⟨v4.2.2.1, fun k hk => by rw [upd_ne _ _ (by omega), upd_ne _ _ (by omega)]; exact v4.2.2.2.1 k hk, v4.2.2.2.2⟩
    · unfold SCA N
      rw [w1, w2 _ (by decide) (by decide), w2 _ (by decide) (by decide)]
      refine ⟨?_, ?_, .inr ⟨?_, ?_, ?_⟩, ?_, fun k hk => ?_, ?_, fun k hk => ?_⟩
      · rw [upd_ne _ _ (by decide), upd_ne _ _ (by decide), upd_ne _ _ (by decide), upd_ne _ _ (by decide)]; exact c1
      · rw [upd_ne _ _ (by decide), upd_ne _ _ (by decide), upd_ne _ _ (by decide), upd_ne _ _ (by decide)]; exact c2
      · rw [upd_ne _ _ (by decide), upd_at]
        intro e
        rw [Int32.toInt_inj.symm, nI_toInt (by omega)] at e
        have : (-1 : Int32).toInt = -1 := by decide
        omega
      · rw [upd_ne _ _ (by decide), upd_at, upd_ne _ _ (by decide), upd_at]
      · rw [upd_at, upd_at]
      · rw [upd_ne _ _ (by decide), upd_ne _ _ (by decide), upd_ne _ _ (by decide), upd_ne _ _ (by decide)]; exact c4
      · rw [upd_ne _ _ (by decide), upd_ne _ _ (by decide)] at hk
        rw [upd_ne _ _ (by omega), upd_ne _ _ (by omega)]; exact c5 k hk
      · rw [upd_ne _ _ (by decide), upd_ne _ _ (by decide), upd_ne _ _ (by decide), upd_ne _ _ (by decide)]; exact c6
      · rw [upd_ne _ _ (by decide), upd_ne _ _ (by decide)] at hk
        rw [upd_ne _ _ (by omega), upd_ne _ _ (by omega)]; exact c7 k hk
