/-! ===== set, count, feed, claim ===== -/
theorem pick4 {v : Int32} {A B C D : Prop} (h0 : v = 0 → A) (h1 : v = 1 → B) (h2 : v = 2 → C) (h3 : ¬ v = 0 → ¬ v = 1 → ¬ v = 2 → D) : if v = 0 then A else if v = 1 then B else if v = 2 then C else D := by
  by_cases q0 : v = 0
  · exact ite_p q0 (h0 q0)
  by_cases q1 : v = 1
  · exact ite_n q0 (ite_p q1 (h1 q1))
  by_cases q2 : v = 2
  · exact ite_n q0 (ite_n q1 (ite_p q2 (h2 q2)))
  exact ite_n q0 (ite_n q1 (ite_n q2 (h3 q0 q1 q2)))
theorem set_inv {M : Mem} (hI : Inv M) {t w v : Nat} (ht : t < N (M.1 65) 1) (hw : w < 4) (h0 : w = 0 → v < 7) (h1 : w = 1 → v < 10) (h2 : w = 2 → v < 4) (h3 : v < 73000) : Inv (mw (mw M 21 (4 * t + w) (nI v)) 65 (28 + 4 * t + w) (nI v)) := by
  obtain ⟨g0, g1, g2, g3, g4, g5⟩ := txI hI.1 ht
  obtain ⟨-, ⟨v2, i2⟩, -⟩ := id hI.1
  have hTn := v2.2.1
  have o : ∀ k, k ≠ 21 → k ≠ 65 → (mw (mw M 21 (4 * t + w) (nI v)) 65 (28 + 4 * t + w) (nI v)).1 k = M.1 k := fun k q1 q2 => by rw [mw_ne _ _ _ q2, mw_ne _ _ _ q1]
  have e65 : (mw (mw M 21 (4 * t + w) (nI v)) 65 (28 + 4 * t + w) (nI v)).1 65 = upd (M.1 65) (28 + 4 * t + w) (nI v) := by rw [mw_at, mw_ne _ _ _ (by decide)]
  have e21 : (mw (mw M 21 (4 * t + w) (nI v)) 65 (28 + 4 * t + w) (nI v)).1 21 = upd (M.1 21) (4 * t + w) (nI v) := by rw [mw_ne _ _ _ (by decide), mw_at]
  refine Inv_of hI (fun k hk => o k (by intro e; subst e; revert hk; decide) (by intro e; subst e; revert hk; decide)) ?_
  rw [e65]
  have n1 : upd (M.1 65) (28 + 4 * t + w) (nI v) 1 = M.1 65 1 := upd_ne _ _ (by omega)
  have nn : N (upd (M.1 65) (28 + 4 * t + w) (nI v)) 1 = N (M.1 65) 1 := by unfold N; rw [n1]
  have tt : ∀ t' w', w' < 4 → (t' = t ∧ w' = w ∧ upd (M.1 65) (28 + 4 * t + w) (nI v) (28 + 4 * t' + w') = nI v ∧ tx (upd (M.1 65) (28 + 4 * t + w) (nI v)) w' t' = v) ∨ (¬ (t' = t ∧ w' = w) ∧ upd (M.1 65) (28 + 4 * t + w) (nI v) (28 + 4 * t' + w') = M.1 65 (28 + 4 * t' + w') ∧ tx (upd (M.1 65) (28 + 4 * t + w) (nI v)) w' t' = tx (M.1 65) w' t') := by
    intro t' w' hw'
    by_cases q : t' = t ∧ w' = w
    · obtain ⟨rfl, rfl⟩ := q
      refine .inl ⟨rfl, rfl, upd_at _ _ _, ?_⟩
      unfold tx N
      rw [upd_at, nn_at (by omega)]
    · refine .inr ⟨q, upd_ne _ _ (by omega), ?_⟩
      unfold tx N
      rw [upd_ne _ _ (by omega)]
  refine IW_things hI.1 (fun j q1 q2 q3 => upd_ne _ _ (by omega)) (fun k hk => o k (by intro e; subst e; revert hk; decide) (by intro e; subst e; revert hk; decide)) ?_ ?_
  · refine ⟨by rw [nn, n1]; exact v2.1, by rw [nn]; exact hTn, fun t' ht' => ?_⟩
    rw [nn] at ht'
    obtain ⟨f0, f1, f2, f3, f4, f5⟩ := txI hI.1 ht'
    refine ⟨fun w' hw' => ?_, ?_, ?_, ?_, ?_⟩
    · rcases tt t' w' hw' with ⟨-, -, a1, a2⟩ | ⟨-, a1, a2⟩
      · rw [a1, a2]
      · rw [a1, a2]; exact f0 w' hw'
    · rcases tt t' 0 (by omega) with ⟨-, a0, -, a2⟩ | ⟨-, -, a2⟩
      · rw [a2]; exact h0 a0.symm
      · rw [a2]; exact f1
    · rcases tt t' 1 (by omega) with ⟨-, a0, -, a2⟩ | ⟨-, -, a2⟩
      · rw [a2]; exact h1 a0.symm
      · rw [a2]; exact f2
    · rcases tt t' 2 (by omega) with ⟨-, a0, -, a2⟩ | ⟨-, -, a2⟩
      · rw [a2]; exact h2 a0.symm
      · rw [a2]; exact f3
    · rcases tt t' 3 (by omega) with ⟨-, a0, -, a2⟩ | ⟨-, -, a2⟩
      · rw [a2]; exact h3
      · rw [a2]; exact f4
  · refine ⟨by show _ = upd (M.1 65) (28 + 4 * t + w) (nI v) 1; rw [n1, o 20 (by decide) (by decide)]; exact i2.1, fun t' ht' w' hw' => ?_⟩
    rw [nn] at ht'
    show (mw (mw M 21 (4 * t + w) (nI v)) 65 (28 + 4 * t + w) (nI v)).1 21 (4 * t' + w') = _
    rw [e21]
    rcases tt t' w' hw' with ⟨rfl, rfl, a1, -⟩ | ⟨q, a1, -⟩
    · rw [a1, upd_at]
    · rw [a1, upd_ne _ _ (by omega)]
      exact i2.2 t' ht' w' hw'
theorem changeC {xs : gX} {d : Nat} {M : Mem} {Q : Int32 → Mem → Prop} {t w v : Nat} (hI : IWM M) (ht : t < N (M.1 65) 1) (hw : w < 4) (hQ : Q (nI (tx (M.1 65) w t)) (mw M 21 (4 * t + w) (nI v))) : MI xs (d + 2) mX3_change [.ref 20, .int (nI t), .int (nI w), .int (nI v)] M Q := by
  obtain ⟨g0, g1, g2, g3, g4, g5⟩ := txI hI ht
  apply wp_X3_change_20
  have e : (nI t * 4) + nI w = nI (4 * t + w) := by simp only [i_lit, nI_mul, nI_add, Nat.mul_comm]
  rw [e, nn_at (by omega)]
  exact factC hI FR.rfl' ht hw (ite_n (nI_lt0 (by omega)) (ite_p (lit_lt (n := 40) rfl (by omega) (by decide)) ⟨vin_n (by omega) (by decide), hQ⟩))
theorem P_set {xs : gX} {d : Nat} {M : Mem} (hI : Inv M) (a b c : Int32) : PB xs d mX8_set mX9_set [.int a, .int b, .int c] M := by
  obtain ⟨⟨v1, i1⟩, ⟨v2, i2⟩, ⟨v3, i3⟩, ⟨v4, i4⟩, i5⟩ := id hI.1
  have hT0 : M.1 65 1 = nI (N (M.1 65) 1) := v2.1
  have hT1 : M.1 20 1 = nI (N (M.1 65) 1) := i2.1.trans v2.1
  have hTn := v2.2.1
  have hP0 : M.1 65 2 = nI (N (M.1 65) 2) := v3.1
  have hP1 : M.1 22 2 = nI (N (M.1 65) 2) := i3.1.trans v3.1
  have hPn := v3.2.1
  have hS0 : M.1 65 0 = nI (ns (M.1 65)) := v1.1
  have hS1 : M.1 15 4 = nI (ns (M.1 65)) := i1.1.trans v1.1
  have hSn := v1.2.1
  rcases arg3 a (N (M.1 65) 1) (by omega) with h | ⟨h0, h1⟩ | ⟨ja, hja, rfl⟩
  · apply wp_X8_set_0
    refine ite_p h ?_
    apply wp_X9_set_64
    exact pick4 (fun _ => ite_p h ⟨rfl, Inv_err hI 1⟩) (fun _ => ite_p h ⟨rfl, Inv_err hI 1⟩) (fun _ => ite_p h ⟨rfl, Inv_err hI 1⟩) (fun _ _ _ => ite_p h ⟨rfl, Inv_err hI 1⟩)
  · apply wp_X8_set_0
    refine ite_n h0 (ite_n (cnt_o hT1 h1) ?_)
    apply wp_X9_set_64
    exact pick4 (fun _ => ite_n h0 (ite_p (cnt_out hT0 (by omega) h0 h1) ⟨rfl, Inv_err hI 1⟩)) (fun _ => ite_n h0 (ite_p (cnt_out hT0 (by omega) h0 h1) ⟨rfl, Inv_err hI 1⟩)) (fun _ => ite_n h0 (ite_p (cnt_out hT0 (by omega) h0 h1) ⟨rfl, Inv_err hI 1⟩)) (fun _ _ _ => ite_n h0 (ite_p (cnt_out hT0 (by omega) h0 h1) ⟨rfl, Inv_err hI 1⟩))
  obtain ⟨a1, a2, a3⟩ := cnt_in hT1 hT0 (by omega) hja
  rcases arg3 b 4 (by decide) with h | ⟨h0, h1⟩ | ⟨jb, hjb, rfl⟩
  · apply wp_X8_set_0
    refine ite_n a1 (ite_p a2 (ite_p h ?_))
    apply wp_X9_set_64
    exact pick4 (fun _ => ite_n a1 (ite_n a3 (ite_p h ⟨rfl, Inv_err hI 1⟩))) (fun _ => ite_n a1 (ite_n a3 (ite_p h ⟨rfl, Inv_err hI 1⟩))) (fun _ => ite_n a1 (ite_n a3 (ite_p h ⟨rfl, Inv_err hI 1⟩))) (fun _ _ _ => ite_n a1 (ite_n a3 (ite_p h ⟨rfl, Inv_err hI 1⟩)))
  · apply wp_X8_set_0
    refine ite_n a1 (ite_p a2 (ite_n h0 (ite_n h1 ?_)))
    apply wp_X9_set_64
    exact pick4 (fun _ => ite_n a1 (ite_n a3 (ite_n h0 (ite_p (ar_out (n := 3) rfl rfl (by decide) h1) ⟨rfl, Inv_err hI 1⟩)))) (fun _ => ite_n a1 (ite_n a3 (ite_n h0 (ite_p (ar_out (n := 3) rfl rfl (by decide) h1) ⟨rfl, Inv_err hI 1⟩)))) (fun _ => ite_n a1 (ite_n a3 (ite_n h0 (ite_p (ar_out (n := 3) rfl rfl (by decide) h1) ⟨rfl, Inv_err hI 1⟩)))) (fun _ _ _ => ite_n a1 (ite_n a3 (ite_n h0 (ite_p (ar_out (n := 3) rfl rfl (by decide) h1) ⟨rfl, Inv_err hI 1⟩))))
  obtain ⟨b1, b2, b3⟩ := ar_in (n := 3) (x := 4) (y := 3) rfl rfl hjb (by decide)
  obtain ⟨g0, g1, g2, g3, g4, g5⟩ := txI hI.1 hja
  rcases q4 hjb with rfl | rfl | rfl | rfl
  · rcases arg3 c 7 (by decide) with h | ⟨h0, h1⟩ | ⟨jc, hjc, rfl⟩
    · apply wp_X8_set_0
      refine ite_n a1 (ite_p a2 (ite_n b1 (ite_p b2 (ite_p rfl (ite_p h ?_)))))
      apply wp_X9_set_64
      exact ite_p rfl (ite_n a1 (ite_n a3 (ite_n b1 (ite_n b3 (ite_p h ⟨rfl, Inv_err hI 1⟩)))))
    · apply wp_X8_set_0
      refine ite_n a1 (ite_p a2 (ite_n b1 (ite_p b2 (ite_p rfl (ite_n h0 (ite_n h1 ?_))))))
      apply wp_X9_set_64
      exact ite_p rfl (ite_n a1 (ite_n a3 (ite_n b1 (ite_n b3 (ite_n h0 (ite_p (ar_out (n := 6) rfl rfl (by decide) h1) ⟨rfl, Inv_err hI 1⟩))))))
    · obtain ⟨c1, c2, c3⟩ := ar_in (n := 6) (x := 7) (y := 6) rfl rfl hjc (by decide)
      apply wp_X8_set_0
      refine ite_n a1 (ite_p a2 (ite_n b1 (ite_p b2 (ite_p rfl (ite_n c1 (ite_p c2 (changeC (w := 0) hI.1 hja (by omega) ?_)))))))
      have e65 : (mw M 21 (4 * ja + 0) (nI jc)).1 65 = M.1 65 := mw_ne _ _ _ (by decide)
      rw [← e65] at a3
      apply wp_X9_set_64
      refine ite_p rfl (ite_n a1 (ite_n a3 (ite_n b1 (ite_n b3 (ite_n c1 (ite_n c3 ?_))))))
      rw [show (28 + (4 * nI ja)) + nI 0 = nI (28 + 4 * ja + 0) from zT ja 0, nn_at (by omega), e65, g0 0 (by omega)]
      exact ⟨vin_n (by omega) (by decide), rfl, set_inv hI hja (by omega) (fun h => by omega) (fun h => by omega) (fun h => by omega) (by omega)⟩
  · rcases arg3 c 10 (by decide) with h | ⟨h0, h1⟩ | ⟨jc, hjc, rfl⟩
    · apply wp_X8_set_0
      refine ite_n a1 (ite_p a2 (ite_n b1 (ite_p b2 (ite_n (by decide) (ite_p rfl (ite_p h ?_))))))
      apply wp_X9_set_64
      exact ite_n (by decide) (ite_p rfl (ite_n a1 (ite_n a3 (ite_n b1 (ite_n b3 (ite_p h ⟨rfl, Inv_err hI 1⟩))))))
    · apply wp_X8_set_0
      refine ite_n a1 (ite_p a2 (ite_n b1 (ite_p b2 (ite_n (by decide) (ite_p rfl (ite_n h0 (ite_n h1 ?_)))))))
      apply wp_X9_set_64
      exact ite_n (by decide) (ite_p rfl (ite_n a1 (ite_n a3 (ite_n b1 (ite_n b3 (ite_n h0 (ite_p (ar_out (n := 9) rfl rfl (by decide) h1) ⟨rfl, Inv_err hI 1⟩)))))))
    · obtain ⟨c1, c2, c3⟩ := ar_in (n := 9) (x := 10) (y := 9) rfl rfl hjc (by decide)
      apply wp_X8_set_0
      refine ite_n a1 (ite_p a2 (ite_n b1 (ite_p b2 (ite_n (by decide) (ite_p rfl (ite_n c1 (ite_p c2 (changeC (w := 1) hI.1 hja (by omega) ?_))))))))
      have e65 : (mw M 21 (4 * ja + 1) (nI jc)).1 65 = M.1 65 := mw_ne _ _ _ (by decide)
      rw [← e65] at a3
      apply wp_X9_set_64
      refine ite_n (by decide) (ite_p rfl (ite_n a1 (ite_n a3 (ite_n b1 (ite_n b3 (ite_n c1 (ite_n c3 ?_)))))))
      rw [show (28 + (4 * nI ja)) + nI 1 = nI (28 + 4 * ja + 1) from zT ja 1, nn_at (by omega), e65, g0 1 (by omega)]
      exact ⟨vin_n (by omega) (by decide), rfl, set_inv hI hja (by omega) (fun h => by omega) (fun h => by omega) (fun h => by omega) (by omega)⟩
  · rcases arg3 c 4 (by decide) with h | ⟨h0, h1⟩ | ⟨jc, hjc, rfl⟩
    · apply wp_X8_set_0
      refine ite_n a1 (ite_p a2 (ite_n b1 (ite_p b2 (ite_n (by decide) (ite_n (by decide) (ite_p rfl (ite_p h ?_)))))))
      apply wp_X9_set_64
      exact ite_n (by decide) (ite_n (by decide) (ite_p rfl (ite_n a1 (ite_n a3 (ite_n b1 (ite_n b3 (ite_p h ⟨rfl, Inv_err hI 1⟩)))))))
    · apply wp_X8_set_0
      refine ite_n a1 (ite_p a2 (ite_n b1 (ite_p b2 (ite_n (by decide) (ite_n (by decide) (ite_p rfl (ite_n h0 (ite_n h1 ?_))))))))
      apply wp_X9_set_64
      exact ite_n (by decide) (ite_n (by decide) (ite_p rfl (ite_n a1 (ite_n a3 (ite_n b1 (ite_n b3 (ite_n h0 (ite_p (ar_out (n := 3) rfl rfl (by decide) h1) ⟨rfl, Inv_err hI 1⟩))))))))
    · obtain ⟨c1, c2, c3⟩ := ar_in (n := 3) (x := 4) (y := 3) rfl rfl hjc (by decide)
      apply wp_X8_set_0
      refine ite_n a1 (ite_p a2 (ite_n b1 (ite_p b2 (ite_n (by decide) (ite_n (by decide) (ite_p rfl (ite_n c1 (ite_p c2 (changeC (w := 2) hI.1 hja (by omega) ?_)))))))))
      have e65 : (mw M 21 (4 * ja + 2) (nI jc)).1 65 = M.1 65 := mw_ne _ _ _ (by decide)
      rw [← e65] at a3
      apply wp_X9_set_64
      refine ite_n (by decide) (ite_n (by decide) (ite_p rfl (ite_n a1 (ite_n a3 (ite_n b1 (ite_n b3 (ite_n c1 (ite_n c3 ?_))))))))
      rw [show (28 + (4 * nI ja)) + nI 2 = nI (28 + 4 * ja + 2) from zT ja 2, nn_at (by omega), e65, g0 2 (by omega)]
      exact ⟨vin_n (by omega) (by decide), rfl, set_inv hI hja (by omega) (fun h => by omega) (fun h => by omega) (fun h => by omega) (by omega)⟩
  · rcases arg3 c 73000 (by decide) with h | ⟨h0, h1⟩ | ⟨jc, hjc, rfl⟩
    · apply wp_X8_set_0
      refine ite_n a1 (ite_p a2 (ite_n b1 (ite_p b2 (ite_n (by decide) (ite_n (by decide) (ite_n (by decide) (ite_p h ?_)))))))
      apply wp_X9_set_64
      exact ite_n (by decide) (ite_n (by decide) (ite_n (by decide) (ite_n a1 (ite_n a3 (ite_n b1 (ite_n b3 (ite_p h ⟨rfl, Inv_err hI 1⟩)))))))
    · apply wp_X8_set_0
      refine ite_n a1 (ite_p a2 (ite_n b1 (ite_p b2 (ite_n (by decide) (ite_n (by decide) (ite_n (by decide) (ite_n h0 (ite_n h1 ?_))))))))
      apply wp_X9_set_64
      exact ite_n (by decide) (ite_n (by decide) (ite_n (by decide) (ite_n a1 (ite_n a3 (ite_n b1 (ite_n b3 (ite_n h0 (ite_p (ar_out (n := 72999) rfl rfl (by decide) h1) ⟨rfl, Inv_err hI 1⟩))))))))
    · obtain ⟨c1, c2, c3⟩ := ar_in (n := 72999) (x := 73000) (y := 72999) rfl rfl hjc (by decide)
      apply wp_X8_set_0
      refine ite_n a1 (ite_p a2 (ite_n b1 (ite_p b2 (ite_n (by decide) (ite_n (by decide) (ite_n (by decide) (ite_n c1 (ite_p c2 (changeC (w := 3) hI.1 hja (by omega) ?_)))))))))
      have e65 : (mw M 21 (4 * ja + 3) (nI jc)).1 65 = M.1 65 := mw_ne _ _ _ (by decide)
      rw [← e65] at a3
      apply wp_X9_set_64
      refine ite_n (by decide) (ite_n (by decide) (ite_n (by decide) (ite_n a1 (ite_n a3 (ite_n b1 (ite_n b3 (ite_n c1 (ite_n c3 ?_))))))))
      rw [show (28 + (4 * nI ja)) + nI 3 = nI (28 + 4 * ja + 3) from zT ja 3, nn_at (by omega), e65, g0 3 (by omega)]
      exact ⟨vin_n (by omega) (by decide), rfl, set_inv hI hja (by omega) (fun h => by omega) (fun h => by omega) (fun h => by omega) (by omega)⟩
/-- what all things are worth -/
def wsum (s : Nat → Int32) : Nat → Int32
  | 0 => 0
  | n + 1 => wsum s n + wrt s n
theorem P_count {xs : gX} {d : Nat} {M : Mem} (hI : Inv M) (a : Int32) : PB xs d mX8_count mX9_count [.int a] M := by
  obtain ⟨⟨v1, i1⟩, ⟨v2, i2⟩, ⟨v3, i3⟩, ⟨v4, i4⟩, i5⟩ := id hI.1
  have hT0 : M.1 65 1 = nI (N (M.1 65) 1) := v2.1
  have hT1 : M.1 20 1 = nI (N (M.1 65) 1) := i2.1.trans v2.1
  have hTn := v2.2.1
  have hP0 : M.1 65 2 = nI (N (M.1 65) 2) := v3.1
  have hP1 : M.1 22 2 = nI (N (M.1 65) 2) := i3.1.trans v3.1
  have hPn := v3.2.1
  have hS0 : M.1 65 0 = nI (ns (M.1 65)) := v1.1
  have hS1 : M.1 15 4 = nI (ns (M.1 65)) := i1.1.trans v1.1
  have hSn := v1.2.1
  obtain ⟨c1, c2, c3, c4, c5, c6, c7⟩ := id i4
  have loC : ∀ (Q : Int32 → Mem → Prop), (∀ M2, FR scr M M2 → Q (wsum (M.1 65) (N (M.1 65) 1)) M2) → ∀ m t M1, t + m = N (M.1 65) 1 → FR scr M M1 → GW xs (d + 6) mX7_worthOfAll 4 [(0, .ref 1), (1, .int (wsum (M.1 65) t)), (2, .int (nI t))] [] M1 (QI Q) := by
    intro Q hQ m
    induction m with
    | zero =>
      intro t M1 ht h1
      obtain rfl : t = N (M.1 65) 1 := by omega
      apply wp_X7_worthOfAll_1_L4
      rw [h1.2 20 (by decide), hT1]
      exact ite_n (nI_nltI (by omega) (by omega) (by omega)) (hQ M1 h1)
    | succ m ih =>
      intro t M1 ht h1
      apply wp_X7_worthOfAll_1_L4
      rw [h1.2 20 (by decide), hT1, nI_1]
      exact ite_p (nI_ltI' (by omega) (by omega) (by omega)) (worthC hI.1 h1 (by omega) (fun M2 h2 => ih (t + 1) M2 (by omega) h2))
  have loR : ∀ (Q : Int32 → Mem → Prop), (∀ M2, RC M M2 → Q (wsum (M.1 65) (N (M.1 65) 1)) M2) → ∀ m t M1, t + m = N (M.1 65) 1 → RC M M1 → GW xs (d + 6) mX9_allWorth 8 [(0, .ref 64), (1, .int (wsum (M.1 65) t)), (2, .int (nI t))] [] M1 (QI Q) := by
    intro Q hQ m
    induction m with
    | zero =>
      intro t M1 ht h1
      obtain rfl : t = N (M.1 65) 1 := by omega
      apply wp_X9_allWorth_64_L8
      rw [s65 h1.1, hT0]
      exact ite_n (nI_nltI (by omega) (by omega) (by omega)) (hQ M1 h1)
    | succ m ih =>
      intro t M1 ht h1
      apply wp_X9_allWorth_64_L8
      rw [s65 h1.1, hT0, nI_1]
      exact ite_p (nI_ltI' (by omega) (by omega) (by omega)) (worthR hI.1 h1 (by omega) (fun M2 h2 => ih (t + 1) M2 (by omega) h2))
  by_cases q0 : a = 0
  · apply wp_X8_count_0
    refine ite_p q0 (?_)
    apply wp_X9_count_64
    exact ite_p q0 (⟨hS1.trans hS0.symm, hI⟩)
  by_cases q1 : a = 1
  · apply wp_X8_count_0
    refine ite_n q0 (ite_p q1 (?_))
    apply wp_X9_count_64
    exact ite_n q0 (ite_p q1 (⟨hT1.trans hT0.symm, hI⟩))
  by_cases q2 : a = 2
  · apply wp_X8_count_0
    refine ite_n q0 (ite_n q1 (ite_p q2 (?_)))
    apply wp_X9_count_64
    exact ite_n q0 (ite_n q1 (ite_p q2 (⟨hP1.trans hP0.symm, hI⟩)))
  by_cases q3 : a = 3
  · apply wp_X8_count_0
    refine ite_n q0 (ite_n q1 (ite_n q2 (ite_p q3 (?_))))
    apply wp_X9_count_64
    exact ite_n q0 (ite_n q1 (ite_n q2 (ite_p q3 (⟨c1, hI⟩))))
  by_cases q4 : a = 4
  · apply wp_X8_count_0
    refine ite_n q0 (ite_n q1 (ite_n q2 (ite_n q3 (ite_p q4 (?_)))))
    apply wp_X9_count_64
    exact ite_n q0 (ite_n q1 (ite_n q2 (ite_n q3 (ite_p q4 (⟨c4, hI⟩)))))
  by_cases q5 : a = 5
  · apply wp_X8_count_0
    refine ite_n q0 (ite_n q1 (ite_n q2 (ite_n q3 (ite_n q4 (ite_p q5 (?_))))))
    apply wp_X9_count_64
    exact ite_n q0 (ite_n q1 (ite_n q2 (ite_n q3 (ite_n q4 (ite_p q5 (⟨c6, hI⟩))))))
  by_cases q6 : a = 6
  · apply wp_X8_count_0
    refine ite_n q0 (ite_n q1 (ite_n q2 (ite_n q3 (ite_n q4 (ite_n q5 (ite_p q6 (?_)))))))
    apply wp_X9_count_64
    exact ite_n q0 (ite_n q1 (ite_n q2 (ite_n q3 (ite_n q4 (ite_n q5 (ite_p q6 (⟨hI.2.2.2.1.1, hI⟩)))))))
  by_cases q7 : a = 7
  · apply wp_X8_count_0
    refine ite_n q0 (ite_n q1 (ite_n q2 (ite_n q3 (ite_n q4 (ite_n q5 (ite_n q6 (ite_p q7 (?_))))))))
    apply wp_X9_count_64
    exact ite_n q0 (ite_n q1 (ite_n q2 (ite_n q3 (ite_n q4 (ite_n q5 (ite_n q6 (ite_p q7 (⟨c2, hI⟩))))))))
  by_cases q8 : a = 8
  · apply wp_X8_count_0
    refine ite_n q0 (ite_n q1 (ite_n q2 (ite_n q3 (ite_n q4 (ite_n q5 (ite_n q6 (ite_n q7 (ite_p q8 (?_)))))))))
    apply wp_X7_worthOfAll_1
    refine loC _ (fun M2 h2 => ?_) (N (M.1 65) 1) 0 M (by omega) FR.rfl'
    apply wp_X9_count_64
    refine ite_n q0 (ite_n q1 (ite_n q2 (ite_n q3 (ite_n q4 (ite_n q5 (ite_n q6 (ite_n q7 (ite_p q8 (?_)))))))))
    apply wp_X9_allWorth_64
    exact namesR hI.1 h2 (fun M3 h3 => loR _ (fun M4 h4 => ⟨rfl, Inv_FR hI h4.1⟩) (N (M.1 65) 1) 0 M3 (by omega) h3)
  apply wp_X8_count_0
  refine ite_n q0 (ite_n q1 (ite_n q2 (ite_n q3 (ite_n q4 (ite_n q5 (ite_n q6 (ite_n q7 (ite_n q8 (?_)))))))))
  apply wp_X9_count_64
  exact ite_n q0 (ite_n q1 (ite_n q2 (ite_n q3 (ite_n q4 (ite_n q5 (ite_n q6 (ite_n q7 (ite_n q8 (⟨rfl, Inv_err hI 1⟩)))))))))
