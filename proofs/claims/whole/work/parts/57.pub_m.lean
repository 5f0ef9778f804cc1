/-! ===== feed ===== -/
theorem argR (x : Int32) (n : Nat) (hn : n < 2 ^ 30) : x < 1 ∨ (¬ x < 1 ∧ nI n < x) ∨ ∃ j, 1 ≤ j ∧ j ≤ n ∧ x = nI j := by
  rcases arg3 x (n + 1) (by omega) with h | ⟨h0, h1⟩ | ⟨j, hj, rfl⟩
  · refine .inl ?_
    rw [Int32.lt_iff_toInt_lt] at h ⊢
    have e0 : (0 : Int32).toInt = 0 := by decide
    have e1 : (1 : Int32).toInt = 1 := by decide
    omega
  · refine .inr (.inl ⟨?_, ar_out rfl rfl hn h1⟩)
    intro q
    have g := ar_out (x := nI (n + 1)) (y := nI n) (v := x) (n := n) rfl rfl hn h1
    rw [Int32.lt_iff_toInt_lt] at q g
    rw [nI_toInt (by omega)] at g
    have e1 : (1 : Int32).toInt = 1 := by decide
    omega
  · by_cases z : j = 0
    · subst z; exact .inl (by decide)
    · exact .inr (.inr ⟨j, by omega, by omega, rfl⟩)
def byW (w : Int64) (i : Nat) : Int32 := ((w >>> (((8 * nI i) : Int32).toInt64 &&& 63)) &&& 255).toInt32
def byC (w : Int64) (i : Nat) : Int32 := ((w.toUInt64 >>> (((8 * nI i) : Int32).toInt64.toUInt64 &&& Int64.toUInt64 63)).toInt64).toInt32 &&& 255
theorem sR64 (w : Int64) (k : Nat) (y : Int64) (hy : (y.toBitVec.smod 64).toNat = k) : (w >>> y).toBitVec = w.toBitVec.sshiftRight k := by
  rw [Int64.toBitVec_shiftRight]
  unfold BitVec.sshiftRight'
  rw [hy]
theorem uR64 (w : UInt64) (k : Nat) (y : UInt64) (hy : (y.toBitVec % 64).toNat = k) : (w >>> y).toBitVec = w.toBitVec >>> k := by
  rw [UInt64.toBitVec_shiftRight]
  show w.toBitVec >>> (y.toBitVec % 64).toNat = _
  rw [hy]
theorem bit64 (x : BitVec 64) (k : Nat) (hk : k + 8 ≤ 64) : (x >>> k).signExtend 32 &&& 255#32 = (x.sshiftRight k &&& 255#64).signExtend 32 := by
  apply BitVec.eq_of_getLsbD_eq
  intro j hj
  have e1 : (255#32).getLsbD j = decide (j < 8) := by
    have : ∀ j, j < 32 → (255#32).getLsbD j = decide (j < 8) := by decide
    exact this j hj
  have e2 : (255#64).getLsbD j = decide (j < 8) := by
    have : ∀ j, j < 64 → (255#64).getLsbD j = decide (j < 8) := by decide
    exact this j (by omega)
  rw [BitVec.getLsbD_and, BitVec.getLsbD_signExtend, BitVec.getLsbD_signExtend, BitVec.getLsbD_and, e1, e2]
  by_cases q : j < 8
  · simp only [q, hj, decide_true, Bool.and_true, Bool.true_and, BitVec.getLsbD_ushiftRight, BitVec.getLsbD_sshiftRight]
    simp [show j < 64 by omega, show k + j < 64 by omega]
  · simp [q]
    intro _ h2
    omega
theorem byC_eq (w : Int64) : ∀ i, i < 8 → byC w i = byW w i := by
  intro i hi
  have key : ∀ k : Nat, k + 8 ≤ 64 → (((((8 * nI i) : Int32).toInt64 &&& 63)).toBitVec.smod 64).toNat = k → ((((8 * nI i) : Int32).toInt64.toUInt64 &&& Int64.toUInt64 63).toBitVec % 64).toNat = k → byC w i = byW w i := by
    intro k hk h1 h2
    apply Int32.toBitVec_inj.mp
    unfold byC byW
    rw [Int32.toBitVec_and, Int64.toBitVec_toInt32, Int64.toBitVec_toInt32, Int64.toBitVec_and, sR64 _ k _ h1]
    have e := uR64 w.toUInt64 k _ h2
    show BitVec.signExtend 32 (w.toUInt64 >>> (((8 * nI i) : Int32).toInt64.toUInt64 &&& Int64.toUInt64 63)).toBitVec &&& 255#32 = _
    rw [e]
    exact bit64 _ k hk
  rcases (show i = 0 ∨ i = 1 ∨ i = 2 ∨ i = 3 ∨ i = 4 ∨ i = 5 ∨ i = 6 ∨ i = 7 by omega) with rfl | rfl | rfl | rfl | rfl | rfl | rfl | rfl
  · exact key 0 (by decide) (by decide +kernel) (by decide +kernel)
  · exact key 8 (by decide) (by decide +kernel) (by decide +kernel)
  · exact key 16 (by decide) (by decide +kernel) (by decide +kernel)
  · exact key 24 (by decide) (by decide +kernel) (by decide +kernel)
  · exact key 32 (by decide) (by decide +kernel) (by decide +kernel)
  · exact key 40 (by decide) (by decide +kernel) (by decide +kernel)
  · exact key 48 (by decide) (by decide +kernel) (by decide +kernel)
  · exact key 56 (by decide) (by decide +kernel) (by decide +kernel)
theorem byW_in (w : Int64) (i : Nat) (hi : i < 8) : vp_in (byW w i) 256 := by
  rw [← byC_eq w i hi]
  exact pk_andIn _ 8 (by decide) (by decide)
def fT (r : Nat → Int32) (c : Nat) (w : Int64) (i : Nat) : Nat → Int32 := fun k => if c ≤ k ∧ k < c + i then byW w (k - c) else r k
theorem fT_0 (r : Nat → Int32) (c : Nat) (w : Int64) : fT r c w 0 = r := funext (fun k => if_neg (by omega))
theorem fT_step (r : Nat → Int32) (c : Nat) (w : Int64) (i : Nat) : upd (fT r c w i) (c + i) (byW w i) = fT r c w (i + 1) := by
  funext k
  unfold fT
  by_cases e : k = c + i
  · subst e
    rw [upd_at, if_pos (by omega), show c + i - c = i by omega]
  · rw [upd_ne _ _ e]
    by_cases q : c ≤ k ∧ k < c + i
    · rw [if_pos q, if_pos (by omega)]
    · rw [if_neg q, if_neg (by omega)]
theorem P_feed {xs : gX} {d : Nat} {M : Mem} (hI : Inv M) (w : Int64) (b : Int32) : PB xs d mX8_feed mX9_feed [.long w, .int b] M := by
  obtain ⟨⟨v1, i1⟩, ⟨v2, i2⟩, ⟨v3, i3⟩, ⟨v4, i4⟩, i5⟩ := id hI.1
  have hT0 : M.1 65 1 = nI (N (M.1 65) 1) := v2.1
  have hT1 : M.1 20 1 = nI (N (M.1 65) 1) := i2.1.trans v2.1
  have hTn := v2.2.1
  have hP0 : M.1 65 2 = nI (N (M.1 65) 2) := v3.1
  have hP1 : M.1 22 2 = nI (N (M.1 65) 2) := i3.1.trans v3.1
  have hPn := v3.2.1
  have hS0 : M.1 65 0 = nI (ns (M.1 65)) := v1.1
  have hS1 : M.1 15 4 = nI (ns (M.1 65)) := i1.1.trans v1.1
  have hSn := v1.2.1
  obtain ⟨c1, c2, c3, c4, c5, c6, c7⟩ := id i4
  rcases argR b 8 (by decide) with h | ⟨h0, h1⟩ | ⟨j, hj1, hj8, rfl⟩
  · apply wp_X8_feed_0
    refine ite_p h ?_
    apply wp_X9_feed_64
    exact ite_p h ⟨rfl, Inv_err hI 1⟩
  · apply wp_X8_feed_0
    refine ite_n h0 (ite_p h1 ?_)
    apply wp_X9_feed_64
    exact ite_n h0 (ite_p h1 ⟨rfl, Inv_err hI 1⟩)
  have b1 : ¬ nI j < 1 := nI_nltI (b := 1) (by omega) (by decide) hj1
  have b2 : ¬ 8 < nI j := nI_nltI (a := 8) (by decide) (by omega) hj8
  obtain ⟨c, hc, ec⟩ : ∃ c, c < 61 ∧ M.1 65 6 = nI c := ⟨_, (vin_get v4.2.2.1 (by decide)).2, (vin_get v4.2.2.1 (by decide)).1⟩
  have nc : N (M.1 65) 6 = c := by unfold N; rw [ec, nn_at (by omega)]
  have ec1 : M.1 1 6 = nI c := c4.trans ec
  by_cases hf : 60 < c + j
  · apply wp_X8_feed_0
    rw [ec1, nI_add]
    refine ite_n b1 (ite_n b2 (ite_p (nI_ltI' (a := 60) (by decide) (by omega) hf) ?_))
    apply wp_X9_feed_64
    rw [mw_ne _ _ _ (by decide : (65 : Nat) ≠ 6), ec, nI_add]
    exact ite_n b1 (ite_n b2 (ite_p (nI_ltI' (a := 60) (by decide) (by omega) hf) ⟨rfl, Inv_err hI 4⟩))
  have keyC : ∀ (Q : Int32 → Mem → Prop), (∀ M1, FR [1, 35] M M1 → M1.1 35 = fT (M.1 35) c w j → M1.1 1 = upd (M.1 1) 6 (nI (c + j)) → Q (nI (c + j)) M1) → ∀ m i M1, i + m = j → FR [1, 35] M M1 → M1.1 35 = fT (M.1 35) c w i → M1.1 1 = upd (M.1 1) 6 (nI (c + i)) → GW xs (d + 7) mX8_feed 40 [(0, .ref 0), (1, .long w), (3, .int (nI j)), (4, .int (nI i))] [] M1 (QI Q) := by
    intro Q hQ m
    induction m with
    | zero =>
      intro i M1 hi h1 h35 h01
      obtain rfl : i = j := by omega
      apply wp_X8_feed_0_L40
      rw [h01, upd_at]
      exact ite_n (nI_nltI (by omega) (by omega) (by omega)) (hQ M1 h1 h35 h01)
    | succ m ih =>
      intro i M1 hi h1 h35 h01
      apply wp_X8_feed_0_L40
      have e6 : M1.1 1 6 = nI (c + i) := by rw [h01, upd_at]
      rw [e6, nn_at (by omega), nI_1, nI_1]
      refine ite_p (nI_ltI' (by omega) (by omega) (by omega)) ⟨vin_n (by omega) (by decide), ?_⟩
      refine ih (i + 1) _ (by omega) ((h1.mw (by decide)).mw (by decide)) ?_ ?_
      · rw [mw_ne _ _ _ (by decide), mw_at, h35, ← fT_step, ← byC_eq w i (by omega)]
        rfl
      · rw [mw_at, mw_ne _ _ _ (by decide), h01]
        funext k
        by_cases e : k = 6
        · subst e; rw [upd_at, upd_at]; rfl
        · rw [upd_ne _ _ e, upd_ne _ _ e, upd_ne _ _ e]
  have keyR : ∀ (Q : Int32 → Mem → Prop) (M0 : Mem), M0.1 65 = M.1 65 → (∀ M1, FR [65] M0 M1 → M1.1 65 = upd (fT (M.1 65) (334 + c) w j) 6 (nI (c + j)) → Q (nI (c + j)) M1) → ∀ m i M1, i + m = j → FR [65] M0 M1 → M1.1 65 = upd (fT (M.1 65) (334 + c) w i) 6 (nI (c + i)) → GW xs (d + 7) mX9_feed 39 [(0, .ref 64), (1, .long w), (3, .int (nI j)), (4, .int (nI i))] [] M1 (QI Q) := by
    intro Q M0 _ hQ m
    induction m with
    | zero =>
      intro i M1 hi h1 h65
      obtain rfl : i = j := by omega
      apply wp_X9_feed_64_L39
      rw [h65, upd_at]
      exact ite_n (nI_nltI (by omega) (by omega) (by omega)) (hQ M1 h1 h65)
    | succ m ih =>
      intro i M1 hi h1 h65
      apply wp_X9_feed_64_L39
      have e6 : M1.1 65 6 = nI (c + i) := by rw [h65, upd_at]
      have z : 334 + nI (c + i) = nI (334 + (c + i)) := by simp only [i_lit, nI_add]
      rw [e6, z, nn_at (by omega)]
      refine ite_p (nI_ltI' (by omega) (by omega) (by omega)) ⟨vin_n (by omega) (by decide), ?_⟩
      have e7 : (mw M1 65 (334 + (c + i)) (((w >>> (((8 * nI i) : Int32).toInt64 &&& 63)) &&& 255).toInt32)).1 65 6 = nI (c + i) := by
        rw [mw_at, upd_ne _ _ (by omega), e6]
      rw [e7, nI_1, nI_1]
      refine ih (i + 1) _ (by omega) ((h1.mw (by decide)).mw (by decide)) ?_
      rw [mw_at, mw_at, h65, ← fT_step]
      funext k
      by_cases e : k = 6
      · subst e; rw [upd_at, upd_at]; rfl
      · rw [upd_ne _ _ e, upd_ne _ _ e]
        by_cases e2 : k = 334 + (c + i)
        · subst e2
          rw [upd_at, show 334 + (c + i) = 334 + c + i by omega, upd_at]
          rfl
        · rw [upd_ne _ _ e2, upd_ne _ _ e, upd_ne _ _ (by omega)]
  apply wp_X8_feed_0
  rw [ec1, nI_add]
  refine ite_n b1 (ite_n b2 (ite_n (nI_nltI (a := 60) (by decide) (by omega) (by omega)) (keyC _ (fun M1 h1 h35 h01 => ?_) j 0 M (by omega) FR.rfl' (fT_0 _ _ _).symm ?_)))
  · have e65 : M1.1 65 = M.1 65 := h1.2 65 (by decide)
    apply wp_X9_feed_64
    rw [e65, ec, nI_add]
    refine ite_n b1 (ite_n b2 (ite_n (nI_nltI (a := 60) (by decide) (by omega) (by omega)) (keyR _ M1 e65 (fun M2 h2 h65 => ⟨rfl, ?_⟩) j 0 M1 (by omega) FR.rfl' ?_)))
    · rw [e65, fT_0]
      funext k
      by_cases e : k = 6
      · subst e; rw [upd_at, ec]; rfl
      · rw [upd_ne _ _ e]
    · have o : ∀ k, k ≠ 1 → k ≠ 35 → k ≠ 65 → M2.1 k = M.1 k := fun k q1 q2 q3 => (h2.2 k (by simp only [List.mem_cons, List.not_mem_nil, or_false]; exact q3)).trans (h1.2 k (by simp only [List.mem_cons, List.not_mem_nil, or_false]; omega))
      have f1 : M2.1 1 = upd (M.1 1) 6 (nI (c + j)) := (h2.2 1 (by decide)).trans h01
      have f35 : M2.1 35 = fT (M.1 35) c w j := (h2.2 35 (by decide)).trans h35
      have far : ∀ k, k ≠ 6 → (k < 334 + c ∨ 334 + c + j ≤ k) → M2.1 65 k = M.1 65 k := fun k q1 q2 => by
        rw [h65, upd_ne _ _ q1]
        exact if_neg (by omega)
      have n6 : M2.1 65 6 = nI (c + j) := by rw [h65, upd_at]
      have nn6 : N (M2.1 65) 6 = c + j := by unfold N; rw [n6, nn_at (by omega)]
      have tape : ∀ k, k < c + j → M2.1 35 k = M2.1 65 (334 + k) ∧ vp_in (M2.1 65 (334 + k)) 256 := by
        intro k hk
        rw [f35, h65, upd_ne _ _ (by omega)]
        unfold fT
        by_cases q : c ≤ k
        · rw [if_pos ⟨q, hk⟩, if_pos (by omega), show 334 + k - (334 + c) = k - c by omega]
          exact ⟨rfl, byW_in w _ (by omega)⟩
        · rw [if_neg (by omega), if_neg (by omega)]
          exact ⟨c5 k (by omega), v4.2.2.2.1 k (by omega)⟩
      refine Inv_of hI (fun k hk => o k (by intro e; subst e; revert hk; decide) (by intro e; subst e; revert hk; decide) (by intro e; subst e; revert hk; decide)) ?_
      refine IW_sca hI.1 (fun k q1 q2 => far k (by omega) (by omega)) (fun k hk => o k (by intro e; subst e; revert hk; decide) (by intro e; subst e; revert hk; decide) (by intro e; subst e; revert hk; decide)) ?_ ?_
      · refine ⟨by rw [far 3 (by omega) (by omega)]; exact v4.1, by rw [far 4 (by omega) (by omega), far 5 (by omega) (by omega)]; exact v4.2.1, by rw [n6]; exact vin_n (by omega) (by decide), fun k hk => ?_, by rw [far 7 (by omega) (by omega)]; exact v4.2.2.2.2⟩
        rw [nn6] at hk
        exact (tape k hk).2
      · have b7 := (vin_get v4.2.2.2.2 (by decide)).2
        have n7 : N (M2.1 65) 7 = N (M.1 65) 7 := by unfold N; rw [far 7 (by omega) (by omega)]
        refine ⟨?_, ?_, ?_, ?_, fun k hk => ?_, ?_, fun k hk => ?_⟩
        · rw [f1, upd_ne _ _ (by decide), far 3 (by omega) (by omega)]; exact c1
        · rw [f1, upd_ne _ _ (by decide), far 8 (by omega) (by omega)]; exact c2
        · rw [f1, upd_ne _ _ (by decide), upd_ne _ _ (by decide), far 4 (by omega) (by omega), far 5 (by omega) (by omega)]; exact c3
        · rw [f1, upd_at, n6]
        · rw [nn6] at hk
          exact (tape k hk).1
        · rw [f1, upd_ne _ _ (by decide), far 7 (by omega) (by omega)]; exact c6
        · rw [n7] at hk
          show M2.1 36 k = _
          rw [o 36 (by decide) (by decide) (by decide), far (394 + k) (by omega) (by omega)]
          exact c7 k hk
  · funext k
    by_cases e : k = 6
    · subst e; rw [upd_at, ec1]; rfl
    · rw [upd_ne _ _ e]
