/-! ===== body ===== -/
theorem P_body {xs : gX} {d : Nat} {M : Mem} (hI : Inv M) (a : Int32) : PB xs d mX8_body mX9_body [.int a] M := by
  obtain ⟨t1, t2, t3⟩ := id hI.2.2.2.1
  obtain ⟨n, hn, en⟩ : ∃ n, n < 31 ∧ M.1 64 18 = nI n := ⟨_, (vin_get t2 (by decide)).2, (vin_get t2 (by decide)).1⟩
  have nn : N (M.1 64) 18 = n := by unfold N; rw [en, nn_at (by omega)]
  have e1 : M.1 4 1 = nI n := t1.trans en
  rcases arg3 a n (by omega) with h | ⟨h0, h1⟩ | ⟨j, hj, rfl⟩
  · apply wp_X8_body_0
    refine ite_p h ?_
    apply wp_X9_body_64
    exact ite_p h ⟨rfl, Inv_err hI 2⟩
  · apply wp_X8_body_0
    refine ite_n h0 (ite_n (cnt_o e1 h1) ?_)
    apply wp_X9_body_64
    refine ite_n h0 ?_
    rw [mw_ne _ _ _ (by decide : (64 : Nat) ≠ 6)]
    exact ite_p (cnt_out en (by omega) h0 h1) ⟨rfl, Inv_err hI 2⟩
  · obtain ⟨a1, a2, a3⟩ := cnt_in e1 en (by omega) hj
    apply wp_X8_body_0
    refine ite_n a1 (ite_p a2 ⟨vin_n (by omega) (by decide), ?_⟩)
    apply wp_X9_body_64
    rw [nn_at (by omega)]
    exact ite_n a1 (ite_n a3 ⟨vin_n (by omega) (by decide), t3 j (by omega), hI⟩)
