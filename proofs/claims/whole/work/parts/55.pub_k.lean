/-! ===== least ===== -/
theorem SE_brN {s s1 s' s1' : Nat → Int32} (h : SE s s1) (h' : SE s' s1') : ∀ n, brN s1 s1' n = brN s s' n := by
  intro n
  induction n with
  | zero => rfl
  | succ n ih =>
    show brN s1 s1' n + (if agn s1' n = agn s1 n then 0 else 1) = brN s s' n + (if agn s' n = agn s n then 0 else 1)
    rw [ih, SE_agn h, SE_agn h']
def lsS (s : Nat → Int32) (f t : Nat) : Nat → Option (Nat × Nat)
  | 0 => none
  | k + 1 => if trB s (k + 1) f t = true then lsS s f t k else match lsS s f t k with
    | none => some (k + 1, brN s (sAdd s (nI (k + 1)) (nI f) (nI t)) (N s 1))
    | some p => if brN s (sAdd s (nI (k + 1)) (nI f) (nI t)) (N s 1) < p.2 then some (k + 1, brN s (sAdd s (nI (k + 1)) (nI f) (nI t)) (N s 1)) else some p
theorem lsS_lt {s : Nat → Int32} {f t : Nat} (hn : N s 1 ≤ 10) : ∀ k p, lsS s f t k = some p → 1 ≤ p.1 ∧ p.1 ≤ k ∧ p.2 ≤ 10 := by
  intro k
  induction k with
  | zero => intro p h; cases h
  | succ k ih =>
    intro p h
    have hb := brN_le s (sAdd s (nI (k + 1)) (nI f) (nI t)) (N s 1)
    unfold lsS at h
    split at h
    · have := ih p h
      omega
    · cases hw : lsS s f t k with
      | none =>
        rw [hw] at h
        cases h
        exact ⟨by omega, Nat.le_refl _, by omega⟩
      | some p' =>
        rw [hw] at h
        have := ih p' hw
        dsimp only at h
        split at h
        · cases h
          exact ⟨by omega, Nat.le_refl _, by omega⟩
        · cases h
          omega
def lB (z : Int32) : Option (Nat × Nat) → Int32
  | none => z
  | some p => nI p.1
theorem P_least {xs : gX} {d : Nat} {M : Mem} (hI : Inv M) (a b : Int32) : PB xs d mX8_least mX9_least [.int a, .int b] M := by
  obtain ⟨⟨v1, i1⟩, ⟨v2, i2⟩, ⟨v3, i3⟩, ⟨v4, i4⟩, i5⟩ := id hI.1
  have hT0 : M.1 65 1 = nI (N (M.1 65) 1) := v2.1
  have hT1 : M.1 20 1 = nI (N (M.1 65) 1) := i2.1.trans v2.1
  have hTn := v2.2.1
  have hP0 : M.1 65 2 = nI (N (M.1 65) 2) := v3.1
  have hP1 : M.1 22 2 = nI (N (M.1 65) 2) := i3.1.trans v3.1
  have hPn := v3.2.1
  have hS0 : M.1 65 0 = nI (ns (M.1 65)) := v1.1
  have hS1 : M.1 15 4 = nI (ns (M.1 65)) := i1.1.trans v1.1
  have hSn := v1.2.1
  rcases arg3 a 4 (by decide) with h | ⟨h0, h1⟩ | ⟨ja, hja, rfl⟩
  · apply wp_X8_least_0
    refine (ite_p h ?_)
    apply wp_X9_least_64
    exact (ite_p h ⟨rfl, Inv_err hI 1⟩)
  · apply wp_X8_least_0
    refine (ite_n h0 (ite_n h1 ?_))
    apply wp_X9_least_64
    exact (ite_n h0 (ite_p (ar_out (n := 3) rfl rfl (by decide) h1) ⟨rfl, Inv_err hI 1⟩))
  obtain ⟨a1, a2, a3⟩ := ar_in (n := 3) (x := 4) (y := 3) rfl rfl hja (by decide)
  rcases arg3 b 4 (by decide) with h | ⟨h0, h1⟩ | ⟨jb, hjb, rfl⟩
  · apply wp_X8_least_0
    refine (ite_n a1 (ite_p a2 (ite_p h ?_)))
    apply wp_X9_least_64
    exact (ite_n a1 (ite_n a3 (ite_p h ⟨rfl, Inv_err hI 1⟩)))
  · apply wp_X8_least_0
    refine (ite_n a1 (ite_p a2 (ite_n h0 (ite_n h1 ?_))))
    apply wp_X9_least_64
    exact (ite_n a1 (ite_n a3 (ite_n h0 (ite_p (ar_out (n := 3) rfl rfl (by decide) h1) ⟨rfl, Inv_err hI 1⟩))))
  obtain ⟨b1, b2, b3⟩ := ar_in (n := 3) (x := 4) (y := 3) rfl rfl hjb (by decide)
  by_cases hab : ja = jb
  · subst hab
    apply wp_X8_least_0
    refine (ite_n a1 (ite_p a2 (ite_n b1 (ite_p b2 ?_))))
    refine ite_p rfl ?_
    apply wp_X9_least_64
    refine (ite_n a1 (ite_n a3 (ite_n b1 (ite_n b3 ?_))))
    exact ite_p rfl ⟨rfl, Inv_err hI 1⟩
  have hab' := nI_ne (a := ja) (b := jb) (by omega) (by omega) hab
  by_cases h6 : ns (M.1 65) < 6
  · have keyC : ∀ (Q : Int32 → Mem → Prop), (∀ M2, FR [15, 16, 17, 18, 19, 31, 37] M M2 → IW M2 1 15 (M.1 65) → if lB 0 (lsS (M.1 65) ja jb 60) = 0 then Q (((-1000000000) : Int32) - 2) (mw M2 6 2 ((M2.1 6 2) + 1)) else Q (lB 0 (lsS (M.1 65) ja jb 60)) M2) → ∀ m k M1, k + m = 60 → FR [15, 16, 17, 18, 19, 31, 37] M M1 → IW M1 1 15 (M.1 65) → GW xs (d + 7) mX8_least 44 [(0, .ref 0), (1, .int (nI ja)), (2, .int (nI jb)), (3, .int (lB 0 (lsS (M.1 65) ja jb k))), (4, .int (wD 11 (lsS (M.1 65) ja jb k))), (5, .int (nI (k + 1)))] [] M1 (QI Q) := by
      intro Q hQ m
      induction m with
      | zero =>
        intro k M1 hk h1 w1
        obtain rfl : k = 60 := by omega
        apply wp_X8_least_0_L44
        exact ite_p (by decide) (hQ M1 h1 w1)
      | succ m ih =>
        intro k M1 hk h1 w1
        apply wp_X8_least_0_L44
        refine ite_n (nI_nltI (a := 60) (by decide) (by omega) (by omega)) (isFree_ok w1.1.1 w1.1.2 (by omega) (by omega) (by omega) ?_)
        rw [nI_1]
        cases ht : trB (M.1 65) (k + 1) ja jb
        · refine ite_n (by decide) (breaksByC w1 h6 (by omega) (by omega) hja hjb hab ht (fun M2 h2 w2 => ?_))
          have ih := ih (k + 1) M2 (by omega) (h1.trans h2) w2
          have hb := brN_le (M.1 65) (sAdd (M.1 65) (nI (k + 1)) (nI ja) (nI jb)) (N (M.1 65) 1)
          unfold lsS at ih
          rw [if_neg (by rw [ht]; decide)] at ih
          cases hw : lsS (M.1 65) ja jb k with
          | none =>
            rw [hw] at ih
            exact ite_p (nI_ltI' (b := 11) (by omega) (by decide) (by omega)) ih
          | some p =>
            rw [hw] at ih
            have hp := lsS_lt hTn k p hw
            dsimp only at ih
            by_cases q : brN (M.1 65) (sAdd (M.1 65) (nI (k + 1)) (nI ja) (nI jb)) (N (M.1 65) 1) < p.2
            · rw [if_pos q] at ih
              exact ite_p (nI_ltI' (by omega) (by omega) q) ih
            · rw [if_neg q] at ih
              exact ite_n (nI_nltI (by omega) (by omega) (by omega)) ih
        · have ih := ih (k + 1) M1 (by omega) h1 w1
          unfold lsS at ih
          rw [if_pos ht] at ih
          exact ite_p rfl ih
    have keyR : ∀ (Q : Int32 → Mem → Prop) (M0 : Mem), (∀ M2, FR [65, 68, 70, 71, 76] M0 M2 → SE (M.1 65) (M2.1 65) → if lB (-1) (lsS (M.1 65) ja jb 60) = (-1) then Q (((-1000000000) : Int32) - 2) (mw M2 67 2 ((M2.1 67 2) + 1)) else Q (lB (-1) (lsS (M.1 65) ja jb 60)) M2) → ∀ m k M1, k + m = 60 → FR [65, 68, 70, 71, 76] M0 M1 → SE (M.1 65) (M1.1 65) → GW xs (d + 7) mX9_least 50 [(0, .ref 64), (1, .int (nI ja)), (2, .int (nI jb)), (3, .int (lB (-1) (lsS (M.1 65) ja jb k))), (4, .int (wD 0 (lsS (M.1 65) ja jb k))), (5, .int (nI (k + 1)))] [] M1 (QI Q) := by
      intro Q M0 hQ m
      induction m with
      | zero =>
        intro k M1 hk h1 he
        obtain rfl : k = 60 := by omega
        apply wp_X9_least_64_L50
        exact ite_p (by decide) (hQ M1 h1 he)
      | succ m ih =>
        intro k M1 hk h1 he
        have hr := RW_of (IW_SE he hI.1)
        apply wp_X9_least_64_L50
        refine ite_n (nI_nltI (a := 60) (by decide) (by omega) (by omega)) (whyNot_ok hr.1 _ _ _ (fun hno => (hno (k + 1) ja jb (by omega) (by omega) hja hjb hab rfl rfl rfl).elim) (fun ja' jb' jc' f1 f2 f3 f4 f5 e1 e2 e3 => ?_))
        have q1 := nI_inj (by omega) (by omega) e1
        have q2 := nI_inj (by omega) (by omega) e2
        have q3 := nI_inj (by omega) (by omega) e3
        subst q1 q2 q3
        rw [SE_trB he, SE_ns he, nI_1]
        cases ht : trB (M.1 65) (k + 1) ja jb
        · rw [why_0 h6]
          refine ite_p rfl (breaksByR hr rfl (by rw [SE_ns he]; exact h6) (by omega) (by omega) hja hjb hab (by rw [SE_trB he]; exact ht) (fun M2 h2 e2 => ?_))
          rw [SE_brN he (SE_add he v1 _ _ _), SE_N he (by omega)]
          have he2 : SE (M.1 65) (M2.1 65) := by
            rw [e2]
            exact SE_trans he (SE_back hr.1 (by rw [SE_ns he]; exact h6) _ _ _)
          have ih := ih (k + 1) M2 (by omega) (h1.trans h2) he2
          have hb := brN_le (M.1 65) (sAdd (M.1 65) (nI (k + 1)) (nI ja) (nI jb)) (N (M.1 65) 1)
          unfold lsS at ih
          rw [if_neg (by rw [ht]; decide)] at ih
          cases hw : lsS (M.1 65) ja jb k with
          | none =>
            rw [hw] at ih
            exact ite_p rfl ih
          | some p =>
            rw [hw] at ih
            have hp := lsS_lt hTn k p hw
            dsimp only at ih
            refine ite_n (nI_neg_ne (by omega) (by decide)) ?_
            by_cases q : brN (M.1 65) (sAdd (M.1 65) (nI (k + 1)) (nI ja) (nI jb)) (N (M.1 65) 1) < p.2
            · rw [if_pos q] at ih
              exact ite_p (nI_ltI' (by omega) (by omega) q) ih
            · rw [if_neg q] at ih
              exact ite_n (nI_nltI (by omega) (by omega) (by omega)) ih
        · rw [why_t]
          have ih := ih (k + 1) M1 (by omega) h1 he
          unfold lsS at ih
          rw [if_pos ht] at ih
          exact ite_n (by decide) ih
    apply wp_X8_least_0
    refine (ite_n a1 (ite_p a2 (ite_n b1 (ite_p b2 ?_))))
    rw [hS1]
    refine ite_n hab' (ite_p (lit_lt (n := 6) rfl h6 (by decide)) (keyC _ (fun M1 h1 w1 => ?_) 60 0 M (by omega) FR.rfl' hI.1))
    have s6 : (mw M1 6 2 (M1.1 6 2 + 1)).1 65 = M.1 65 := by rw [mw_ne _ _ _ (by decide), h1.2 65 (by decide)]
    cases hw : lsS (M.1 65) ja jb 60 with
    | none =>
      refine ite_p rfl ?_
      apply wp_X9_least_64
      refine (ite_n a1 (ite_n a3 (ite_n b1 (ite_n b3 ?_))))
      rw [s6, hS0]
      refine ite_n hab' (ite_n (nI_ne (b := 6) (by omega) (by decide) (by omega)) (keyR _ _ (fun M2 h2 he => ?_) 60 0 _ (by omega) FR.rfl' (by rw [s6]; exact SE_rfl')))
      rw [hw]
      exact ite_p rfl ⟨rfl, Inv_br2 hI 2 h1 w1 h2 he⟩
    | some p =>
      have hp := lsS_lt hTn 60 p hw
      refine ite_n (nI_ne (b := 0) (by omega) (by decide) (by omega)) ?_
      apply wp_X9_least_64
      refine (ite_n a1 (ite_n a3 (ite_n b1 (ite_n b3 ?_))))
      rw [h1.2 65 (by decide), hS0]
      refine ite_n hab' (ite_n (nI_ne (b := 6) (by omega) (by decide) (by omega)) (keyR _ _ (fun M2 h2 he => ?_) 60 0 _ (by omega) FR.rfl' (by rw [h1.2 65 (by decide)]; exact SE_rfl')))
      rw [hw]
      exact ite_n (nI_neg_ne (by omega) (by decide)) ⟨rfl, Inv_br hI h1 w1 h2 he⟩
  · apply wp_X8_least_0
    refine (ite_n a1 (ite_p a2 (ite_n b1 (ite_p b2 ?_))))
    rw [hS1]
    refine ite_n hab' (ite_n (lit_nlt (n := 6) rfl (by omega) (by omega)) ?_)
    apply wp_X9_least_64
    refine (ite_n a1 (ite_n a3 (ite_n b1 (ite_n b3 ?_))))
    rw [mw_ne _ _ _ (by decide : (65 : Nat) ≠ 6), hS0]
    exact ite_n hab' (ite_p (by rw [show ns (M.1 65) = 6 by omega]; rfl) ⟨rfl, Inv_err hI 4⟩)
