/-- the last sale goes -/
theorem removeLast_ok {xs : gX} {d : Nat} {M : Mem} {Q : Mem → Prop} {s : Nat → Int32} (hV : VS s) (hS : SKY M 15 s) (hn : 1 ≤ ns s) (hQ : ∀ g, SKY (mw (mwA M 19 g) 15 4 (nI (ns s - 1))) 15 (sLess s) → Q (mw (mwA M 19 g) 15 4 (nI (ns s - 1)))) : MV xs d mX6_removeLast [.ref 15] M Q := by
  obtain ⟨h0, hk, p, hp1, hp2, hp3⟩ := id hS
  have hn6 := hV.2.1
  have e1 := ns_less hV
  have hs0 : M.1 15 4 = nI (ns s) := h0.trans hV.1
  obtain ⟨r, hr, hpr⟩ := onto_of hp2.1 hp2.2 (y := ns s - 1) (by omega)
  have key : ∀ m i g, i + m = ns s → (∀ j, j < (if i ≤ r then i else i - 1) → g j = nI (if j < r then p j else p (j + 1))) → (∀ j, i ≤ j → j < ns s → g j = nI (p j)) → GW xs d mX6_removeLast 4 [(0, .ref 15), (1, .int (nI (if i ≤ r then i else i - 1))), (2, .int (nI i))] [] (mwA M 19 g) (QV Q) := by
    intro m
    induction m with
    | zero =>
      intro i g hi hg1 hg2
      have hir : ¬ i ≤ r := by omega
      rw [if_neg hir] at hg1 ⊢
      apply wp_X6_removeLast_15_L4
      rw [mwA_ne _ _ (by decide : 15 ≠ 19), hs0]
      refine ite_n (nI_nltI (by omega) (by omega) (by omega)) ?_
      rw [show i - 1 = ns s - 1 by omega]
      refine hQ g ⟨?_, fun k hk2 => ?_, fun j => if j < r then p j else p (j + 1), fun j hj => ?_, ⟨fun j hj => ?_, fun j j' hj hj' e => ?_⟩, fun j j' hjj hj' => ?_⟩
      · rw [mw_at, upd_at]; exact (upd_at _ _ _).symm
      · rw [e1] at hk2
        rw [mw_ne _ _ _ (by decide), mw_ne _ _ _ (by decide), mw_ne _ _ _ (by decide), mwA_ne _ _ (by decide), mwA_ne _ _ (by decide), mwA_ne _ _ (by decide), sLess_far (by omega), sLess_far (by omega), sLess_far (by omega)]
        exact hk k (by omega)
      · rw [e1] at hj
        rw [mw_ne _ _ _ (by decide), show (15 + 4 : Nat) = 19 from rfl, mwA_at]
        exact hg1 j (by omega)
      · rw [e1] at hj ⊢
        show (if j < r then p j else p (j + 1)) < ns s - 1
        have aux : ∀ q, q < ns s → q ≠ r → p q < ns s - 1 := by
          intro q hq hqr
          have := hp2.1 q hq
          have : p q ≠ ns s - 1 := fun e => hqr (hp2.2 q r hq hr (e.trans hpr.symm))
          omega
        split
        · exact aux j (by omega) (by omega)
        · exact aux (j + 1) (by omega) (by omega)
      · rw [e1] at hj hj'
        have e : (if j < r then p j else p (j + 1)) = (if j' < r then p j' else p (j' + 1)) := e
        by_cases q1 : j < r <;> by_cases q2 : j' < r
        · rw [if_pos q1, if_pos q2] at e; exact hp2.2 _ _ (by omega) (by omega) e
        · rw [if_pos q1, if_neg q2] at e; have := hp2.2 _ _ (by omega) (by omega) e; omega
        · rw [if_neg q1, if_pos q2] at e; have := hp2.2 _ _ (by omega) (by omega) e; omega
        · rw [if_neg q1, if_neg q2] at e; have := hp2.2 _ _ (by omega) (by omega) e; omega
      · rw [e1] at hj'
        show sx (sLess s) 0 (if j < r then p j else p (j + 1)) ≤ sx (sLess s) 0 (if j' < r then p j' else p (j' + 1))
        rw [sx_less, sx_less]
        by_cases q1 : j < r <;> by_cases q2 : j' < r
        · rw [if_pos q1, if_pos q2]; exact hp3 _ _ (by omega) (by omega)
        · rw [if_pos q1, if_neg q2]; exact hp3 _ _ (by omega) (by omega)
        · omega
        · rw [if_neg q1, if_neg q2]; exact hp3 _ _ (by omega) (by omega)
    | succ m ih =>
      intro i g hi hg1 hg2
      have hpi := hp2.1 i (by omega)
      apply wp_X6_removeLast_15_L4
      rw [mwA_ne _ _ (by decide : 15 ≠ 19), hs0, mwA_at]
      refine ite_p (nI_ltI' (by omega) (by omega) (by omega)) ⟨vin_n (by omega) (by decide), ?_⟩
      rw [nn_at (by omega), hg2 i (by omega) (by omega), show nI (ns s) - 1 = nI (ns s - 1) from pk_sub (by omega), nI_1]
      by_cases e : i = r
      · subst e
        refine ite_p (by rw [hpr]) ?_
        have h := ih (i + 1) g (by omega) (fun j hj => ?_) (fun j h1 h2 => hg2 j (by omega) h2)
        · rw [if_neg (by omega)] at h
          rw [if_pos (Nat.le_refl i)]
          exact h
        · rw [if_neg (by omega)] at hj
          exact hg1 j (by rw [if_pos (Nat.le_refl i)]; omega)
      · refine ite_n (nI_ne (by omega) (by omega) (fun e2 => e (hp2.2 i r (by omega) hr (e2.trans hpr.symm)))) ⟨vin_n (by split <;> omega) (by decide), ?_⟩
        rw [nn_at (by split <;> omega), nI_1, mw_mwA]
        by_cases hir : i ≤ r
        · rw [if_pos hir] at hg1 ⊢
          have h := ih (i + 1) (upd g i (nI (p i))) (by omega) (fun j hj => ?_) (fun j h1 h2 => by rw [upd_ne _ _ (by omega)]; exact hg2 j (by omega) h2)
          · rw [if_pos (by omega)] at h; exact h
          · rw [if_pos (by omega)] at hj
            by_cases e3 : j = i
            · subst e3; rw [upd_at, if_pos (by omega)]
            · rw [upd_ne _ _ e3]; exact hg1 j (by omega)
        · rw [if_neg hir] at hg1 ⊢
          have h := ih (i + 1) (upd g (i - 1) (nI (p i))) (by omega) (fun j hj => ?_) (fun j h1 h2 => by rw [upd_ne _ _ (by omega)]; exact hg2 j (by omega) h2)
          · rw [if_neg (by omega)] at h
            rw [show i - 1 + 1 = i + 1 - 1 by omega]; exact h
          · rw [if_neg (by omega)] at hj
            by_cases e3 : j = i - 1
            · subst e3; rw [upd_at, if_neg (by omega), show i - 1 + 1 = i by omega]
            · rw [upd_ne _ _ e3]; exact hg1 j (by omega)
  apply wp_X6_removeLast_15
  have h := key (ns s) 0 (M.1 19) (by omega) (fun j hj => by rw [if_pos (Nat.zero_le r)] at hj; omega) (fun j _ hj => hp1 j hj)
  rw [if_pos (Nat.zero_le r), mwA_self] at h
  exact h
theorem P_undo {xs : gX} {d : Nat} {M : Mem} (hI : Inv M) : PB xs d mX8_undo mX9_undo [] M := by
  obtain ⟨⟨v1, i1⟩, ⟨v2, i2⟩, ⟨v3, i3⟩, ⟨v4, i4⟩, i5⟩ := id hI.1
  have hT0 : M.1 65 1 = nI (N (M.1 65) 1) := v2.1
  have hT1 : M.1 20 1 = nI (N (M.1 65) 1) := i2.1.trans v2.1
  have hTn := v2.2.1
  have hP0 : M.1 65 2 = nI (N (M.1 65) 2) := v3.1
  have hP1 : M.1 22 2 = nI (N (M.1 65) 2) := i3.1.trans v3.1
  have hPn := v3.2.1
  have hS0 : M.1 65 0 = nI (ns (M.1 65)) := v1.1
  have hS1 : M.1 15 4 = nI (ns (M.1 65)) := i1.1.trans v1.1
  have hSn := v1.2.1
  apply wp_X8_undo_0
  rw [hS1]
  by_cases h0 : ns (M.1 65) = 0
  · rw [h0]
    refine ite_p rfl ?_
    apply wp_X9_undo_64
    refine ite_p ?_ ⟨rfl, Inv_err hI 3⟩
    rw [mw_ne _ _ _ (by decide : (65 : Nat) ≠ 6), hS0, h0]; rfl
  · refine ite_n (nI_ne (b := 0) (by omega) (by decide) h0) ?_
    refine removeLast_ok v1 i1 (by omega) (fun g hg => ?_)
    apply wp_X9_undo_64
    rw [mw_ne _ _ _ (by decide : (65 : Nat) ≠ 15), mwA_ne _ _ (by decide : (65 : Nat) ≠ 19), hS0]
    refine ite_n (nI_ne (b := 0) (by omega) (by decide) h0) ?_
    rw [mw_at, upd_at, show nI (ns (M.1 65)) - 1 = nI (ns (M.1 65) - 1) from pk_sub (a := ns (M.1 65)) (b := 1) (by omega)]
    refine ⟨rfl, Inv_of hI (fun k hk => ?_) ?_⟩
    · rw [mw_ne _ _ _ (by intro e; subst e; revert hk; decide), mw_ne _ _ _ (by intro e; subst e; revert hk; decide), mwA_ne _ _ (by intro e; subst e; revert hk; decide)]
    · rw [mw_at, mw_ne _ _ _ (by decide : (65 : Nat) ≠ 15), mwA_ne _ _ (by decide : (65 : Nat) ≠ 19)]
      refine IW_sales hI.1 (fun j h1 h2 h3 => sLess_far h2) (fun k hk => ?_) (VS_less v1) ?_
      · rw [mw_ne _ _ _ (by intro e; subst e; revert hk; decide), mw_ne _ _ _ (by intro e; subst e; revert hk; decide), mwA_ne _ _ (by intro e; subst e; revert hk; decide)]
      · exact SKY_congr (VS_less v1) rfl (fun _ _ _ => rfl) (by rw [mw_ne _ _ _ (by decide : (15 : Nat) ≠ 65)]) (mw_ne _ _ _ (by decide)) (mw_ne _ _ _ (by decide)) (mw_ne _ _ _ (by decide)) (mw_ne _ _ _ (by decide)) hg
def why (t : Bool) (n : Nat) : Int32 := if t then 3 else if n < 6 then 0 else 4
theorem why_t (n : Nat) : why true n = 3 := rfl
theorem why_0 {n : Nat} (h : n < 6) : why false n = 0 := by simp [why, h]
theorem why_4 {n : Nat} (h : ¬ n < 6) : why false n = 4 := by simp only [why, Bool.false_eq_true, if_false, if_neg h]
/-- why a sale can't be made: both sides say the same -/
theorem saleRefusal_ok {xs : gX} {d : Nat} {M : Mem} {Q : Int32 → Mem → Prop} (hI : Inv M) (a b c : Int32) (hbad : (∀ ja jb jc, 1 ≤ ja → ja ≤ 150 → jb < 4 → jc < 4 → jb ≠ jc → a = nI ja → b = nI jb → c = nI jc → False) → Q 1 M) (hok : ∀ ja jb jc, 1 ≤ ja → ja ≤ 150 → jb < 4 → jc < 4 → jb ≠ jc → a = nI ja → b = nI jb → c = nI jc → Q (why (trB (M.1 65) ja jb jc) (ns (M.1 65))) M) : MI xs (d + 2) mX8_saleRefusal [.ref 0, .int a, .int b, .int c] M Q := by
  obtain ⟨⟨v1, i1⟩, ⟨v2, i2⟩, ⟨v3, i3⟩, ⟨v4, i4⟩, i5⟩ := id hI.1
  have hT0 : M.1 65 1 = nI (N (M.1 65) 1) := v2.1
  have hT1 : M.1 20 1 = nI (N (M.1 65) 1) := i2.1.trans v2.1
  have hTn := v2.2.1
  have hP0 : M.1 65 2 = nI (N (M.1 65) 2) := v3.1
  have hP1 : M.1 22 2 = nI (N (M.1 65) 2) := i3.1.trans v3.1
  have hPn := v3.2.1
  have hS0 : M.1 65 0 = nI (ns (M.1 65)) := v1.1
  have hS1 : M.1 15 4 = nI (ns (M.1 65)) := i1.1.trans v1.1
  have hSn := v1.2.1
  apply wp_X8_saleRefusal_0
  by_cases h1 : a < 1
  · exact ite_p h1 (hbad (fun ja jb jc g1 g2 g3 g4 g5 e1 e2 e3 => by subst e1; exact absurd h1 (nI_nltI (b := 1) (by omega) (by decide) g1)))
  refine ite_n h1 ?_
  by_cases h2 : 150 < a
  · exact ite_p h2 (hbad (fun ja jb jc g1 g2 g3 g4 g5 e1 e2 e3 => by subst e1; exact absurd h2 (nI_nltI (a := 150) (by decide) (by omega) g2)))
  refine ite_n h2 ?_
  rcases arg3 b 4 (by decide) with h | ⟨h3, h4⟩ | ⟨jb, hjb, rfl⟩
  · exact ite_p h (hbad (fun ja jb jc g1 g2 g3 g4 g5 e1 e2 e3 => by subst e2; exact absurd h (nI_lt0 (by omega))))
  · exact ite_n h3 (ite_n h4 (hbad (fun ja jb jc g1 g2 g3 g4 g5 e1 e2 e3 => by subst e2; exact absurd (nI_ltI' (by omega) (by omega) g3) h4)))
  obtain ⟨b1, b2, b3⟩ := ar_in (n := 3) (x := 4) (y := 3) rfl rfl hjb (by decide)
  refine ite_n b1 (ite_p b2 ?_)
  rcases arg3 c 4 (by decide) with h | ⟨h3, h4⟩ | ⟨jc, hjc, rfl⟩
  · exact ite_p h (hbad (fun ja jb jc g1 g2 g3 g4 g5 e1 e2 e3 => by subst e3; exact absurd h (nI_lt0 (by omega))))
  · exact ite_n h3 (ite_n h4 (hbad (fun ja jb jc g1 g2 g3 g4 g5 e1 e2 e3 => by subst e3; exact absurd (nI_ltI' (by omega) (by omega) g4) h4)))
  obtain ⟨c1, c2, c3⟩ := ar_in (n := 3) (x := 4) (y := 3) rfl rfl hjc (by decide)
  refine ite_n c1 (ite_p c2 ?_)
  by_cases hbc : jb = jc
  · refine ite_p (by rw [hbc]) (hbad (fun ja jb' jc' g1 g2 g3 g4 g5 e1 e2 e3 => ?_))
    have := nI_inj (by omega) (by omega) e2
    have := nI_inj (by omega) (by omega) e3
    omega
  refine ite_n (nI_ne (by omega) (by omega) hbc) ?_
  obtain ⟨ja, g1, g2, rfl⟩ : ∃ ja, 1 ≤ ja ∧ ja ≤ 150 ∧ a = nI ja := by
    have h0 : ¬ a < 0 := by
      rw [Int32.lt_iff_toInt_lt] at *
      have : (1 : Int32).toInt = 1 := by decide
      have : (0 : Int32).toInt = 0 := by decide
      omega
    obtain ⟨j, hj, rfl⟩ := nI_of h0
    refine ⟨j, ?_, ?_, rfl⟩
    · rcases Nat.eq_zero_or_pos j with e | e
      · subst e; exact absurd (by decide) h1
      · exact e
    · rcases Nat.lt_or_ge 150 j with e | e
      · exact absurd (nI_ltI' (a := 150) (by omega) hj e) h2
      · exact e
  have hq := hok ja jb jc g1 g2 hjb hjc hbc rfl rfl rfl
  refine isFree_ok v1 i1 (by omega) (by omega) (by omega) ?_
  cases ht : trB (M.1 65) ja jb jc
  · rw [ht] at hq
    refine ite_n (by decide) ?_
    rw [hS1]
    by_cases h6 : ns (M.1 65) < 6
    · refine ite_p (lit_lt (n := 6) rfl h6 (by decide)) ?_
      rw [why_0 h6] at hq; exact hq
    · refine ite_n (lit_nlt (n := 6) rfl (by omega) (by omega)) ?_
      rw [why_4 h6] at hq; exact hq
  · rw [ht] at hq
    refine ite_p rfl ?_
    rw [why_t] at hq; exact hq
theorem whyNot_ok {xs : gX} {d : Nat} {M : Mem} {Q : Int32 → Mem → Prop} (hV : VS (M.1 65)) (a b c : Int32) (hbad : (∀ ja jb jc, 1 ≤ ja → ja ≤ 150 → jb < 4 → jc < 4 → jb ≠ jc → a = nI ja → b = nI jb → c = nI jc → False) → Q 1 M) (hok : ∀ ja jb jc, 1 ≤ ja → ja ≤ 150 → jb < 4 → jc < 4 → jb ≠ jc → a = nI ja → b = nI jb → c = nI jc → Q (why (trB (M.1 65) ja jb jc) (ns (M.1 65))) M) : MI xs (d + 2) mX9_whyNotSold [.ref 64, .int a, .int b, .int c] M Q := by
  apply wp_X9_whyNotSold_64
  by_cases h1 : a < 1
  · exact ite_p h1 (hbad (fun ja jb jc g1 g2 g3 g4 g5 e1 e2 e3 => by subst e1; exact absurd h1 (nI_nltI (b := 1) (by omega) (by decide) g1)))
  refine ite_n h1 ?_
  by_cases h2 : 150 < a
  · exact ite_p h2 (hbad (fun ja jb jc g1 g2 g3 g4 g5 e1 e2 e3 => by subst e1; exact absurd h2 (nI_nltI (a := 150) (by decide) (by omega) g2)))
  refine ite_n h2 ?_
  rcases arg3 b 4 (by decide) with h | ⟨h3, h4⟩ | ⟨jb, hjb, rfl⟩
  · exact ite_p h (hbad (fun ja jb jc g1 g2 g3 g4 g5 e1 e2 e3 => by subst e2; exact absurd h (nI_lt0 (by omega))))
  · exact ite_n h3 (ite_p (ar_out (n := 3) rfl rfl (by decide) h4) (hbad (fun ja jb jc g1 g2 g3 g4 g5 e1 e2 e3 => by subst e2; exact absurd (nI_ltI' (by omega) (by omega) g3) h4)))
  obtain ⟨b1, b2, b3⟩ := ar_in (n := 3) (x := 4) (y := 3) rfl rfl hjb (by decide)
  refine ite_n b1 (ite_n b3 ?_)
  rcases arg3 c 4 (by decide) with h | ⟨h3, h4⟩ | ⟨jc, hjc, rfl⟩
  · exact ite_p h (hbad (fun ja jb jc g1 g2 g3 g4 g5 e1 e2 e3 => by subst e3; exact absurd h (nI_lt0 (by omega))))
  · exact ite_n h3 (ite_p (ar_out (n := 3) rfl rfl (by decide) h4) (hbad (fun ja jb jc g1 g2 g3 g4 g5 e1 e2 e3 => by subst e3; exact absurd (nI_ltI' (by omega) (by omega) g4) h4)))
  obtain ⟨c1, c2, c3⟩ := ar_in (n := 3) (x := 4) (y := 3) rfl rfl hjc (by decide)
  refine ite_n c1 (ite_n c3 ?_)
  by_cases hbc : jb = jc
  · refine ite_p (by rw [hbc]) (hbad (fun ja jb' jc' g1 g2 g3 g4 g5 e1 e2 e3 => ?_))
    have := nI_inj (by omega) (by omega) e2
    have := nI_inj (by omega) (by omega) e3
    omega
  refine ite_n (nI_ne (by omega) (by omega) hbc) ?_
  obtain ⟨ja, g1, g2, rfl⟩ : ∃ ja, 1 ≤ ja ∧ ja ≤ 150 ∧ a = nI ja := by
    have h0 : ¬ a < 0 := by
      rw [Int32.lt_iff_toInt_lt] at *
      have : (1 : Int32).toInt = 1 := by decide
      have : (0 : Int32).toInt = 0 := by decide
      omega
    obtain ⟨j, hj, rfl⟩ := nI_of h0
    refine ⟨j, ?_, ?_, rfl⟩
    · rcases Nat.eq_zero_or_pos j with e | e
      · subst e; exact absurd (by decide) h1
      · exact e
    · rcases Nat.lt_or_ge 150 j with e | e
      · exact absurd (nI_ltI' (a := 150) (by omega) hj e) h2
      · exact e
  have hq := hok ja jb jc g1 g2 hjb hjc hbc rfl rfl rfl
  have hSn := hV.2.1
  unfold trB at hq
  refine has_ok hV (.inl rfl) (by omega) (by omega) ?_
  cases t1 : hN (M.1 65) 1 jb ja (ns (M.1 65))
  · refine ite_p rfl (has_ok hV (.inr rfl) (by omega) (by omega) ?_)
    cases t2 : hN (M.1 65) 2 jb ja (ns (M.1 65))
    · refine ite_p rfl (has_ok hV (.inl rfl) (by omega) (by omega) ?_)
      cases t3 : hN (M.1 65) 1 jc ja (ns (M.1 65))
      · refine ite_p rfl (has_ok hV (.inr rfl) (by omega) (by omega) ?_)
        cases t4 : hN (M.1 65) 2 jc ja (ns (M.1 65))
        · refine ite_p rfl ?_
          simp only [t1, t2, t3, t4, Bool.or_false] at hq
          rw [hV.1]
          by_cases h6 : ns (M.1 65) < 6
          · rw [why_0 h6] at hq
            exact ite_n (nI_ne (b := 6) (by omega) (by decide) (by omega)) hq
          · rw [why_4 h6] at hq
            exact ite_p (by rw [show ns (M.1 65) = 6 by omega]; rfl) hq
        · simp only [t1, t2, t3, t4, Bool.or_true, why_t] at hq
          exact ite_n (by decide) hq
      · simp only [t1, t2, t3, Bool.or_true, Bool.true_or, why_t] at hq
        exact ite_n (by decide) hq
    · simp only [t1, t2, Bool.or_true, Bool.true_or, why_t] at hq
      exact ite_n (by decide) hq
  · simp only [t1, Bool.true_or, why_t] at hq
    exact ite_n (by decide) hq
theorem P_sale {xs : gX} {d : Nat} {M : Mem} (hI : Inv M) (a b c : Int32) : PB xs d mX8_sale mX9_sale [.int a, .int b, .int c] M := by
  obtain ⟨⟨v1, i1⟩, ⟨v2, i2⟩, ⟨v3, i3⟩, ⟨v4, i4⟩, i5⟩ := id hI.1
  have hT0 : M.1 65 1 = nI (N (M.1 65) 1) := v2.1
  have hT1 : M.1 20 1 = nI (N (M.1 65) 1) := i2.1.trans v2.1
  have hTn := v2.2.1
  have hP0 : M.1 65 2 = nI (N (M.1 65) 2) := v3.1
  have hP1 : M.1 22 2 = nI (N (M.1 65) 2) := i3.1.trans v3.1
  have hPn := v3.2.1
  have hS0 : M.1 65 0 = nI (ns (M.1 65)) := v1.1
  have hS1 : M.1 15 4 = nI (ns (M.1 65)) := i1.1.trans v1.1
  have hSn := v1.2.1
  have bad : ∀ k : Nat, 1 ≤ k → k ≤ 4 → (∀ Q : Int32 → Mem → Prop, Q (nI k) (mw M 6 k (M.1 6 k + 1)) → MI xs (d + 6) mX9_whyNotSold [.ref 64, .int a, .int b, .int c] (mw M 6 k (M.1 6 k + 1)) Q) → MI xs (d + 7) mX9_sale [.ref 64, .int a, .int b, .int c] (mw M 6 k (M.1 6 k + 1)) (fun r2 M2 => -1000000000 - nI k = r2 ∧ Inv M2) := by
    intro k k1 k2 hw
    apply wp_X9_sale_64
    refine hw _ ?_
    refine ite_p (nI_ltI' (a := 0) (by decide) (by omega) (by omega)) ⟨vin_n (by omega) (by decide), rfl, ?_⟩
    rw [nn_at (by omega)]
    exact Inv_err hI k
  have s6 : ∀ k, (mw M 6 k (M.1 6 k + 1)).1 65 = M.1 65 := fun k => mw_ne _ _ _ (by decide)
  apply wp_X8_sale_0
  refine saleRefusal_ok hI a b c (fun hno => ?_) (fun ja jb jc g1 g2 g3 g4 g5 e1 e2 e3 => ?_)
  · refine ite_n (by decide) ⟨vin (by decide), ?_⟩
    exact bad 1 (by decide) (by decide) (fun Q hq => whyNot_ok (by rw [s6]; exact v1) a b c (fun _ => hq) (fun ja jb jc g1 g2 g3 g4 g5 e1 e2 e3 => (hno ja jb jc g1 g2 g3 g4 g5 e1 e2 e3).elim))
  · subst e1 e2 e3
    have no : ∀ k : Nat, why (trB (M.1 65) ja jb jc) (ns (M.1 65)) = nI k → ∀ Q : Int32 → Mem → Prop, Q (nI k) (mw M 6 k (M.1 6 k + 1)) → MI xs (d + 6) mX9_whyNotSold [.ref 64, .int (nI ja), .int (nI jb), .int (nI jc)] (mw M 6 k (M.1 6 k + 1)) Q := by
      intro k hk Q hq
      refine whyNot_ok (by rw [s6]; exact v1) _ _ _ (fun hno => (hno ja jb jc g1 g2 g3 g4 g5 rfl rfl rfl).elim) (fun ja' jb' jc' f1 f2 f3 f4 f5 e1 e2 e3 => ?_)
      have q1 := nI_inj (by omega) (by omega) e1
      have q2 := nI_inj (by omega) (by omega) e2
      have q3 := nI_inj (by omega) (by omega) e3
      subst q1 q2 q3
      rw [s6, hk]; exact hq
    cases ht : trB (M.1 65) ja jb jc
    · rw [ht] at no
      by_cases h6 : ns (M.1 65) < 6
      · rw [why_0 h6]
        refine ite_p rfl ?_
        refine add_ok v1 i1 h6 (by omega) (fun M1 hfr h15 hsk => ?_)
        have hr65 : M1.1 65 = M.1 65 := hfr.2 65 (by decide)
        have ecnt : M1.1 15 4 = nI (ns (M.1 65) + 1) := by
          rw [hsk.1]; exact upd_at _ _ _
        rw [ecnt, nI_pred]
        apply wp_X9_sale_64
        refine whyNot_ok (by rw [hr65]; exact v1) _ _ _ (fun hno => (hno ja jb jc g1 g2 g3 g4 g5 rfl rfl rfl).elim) (fun ja' jb' jc' f1 f2 f3 f4 f5 e1 e2 e3 => ?_)
        have q1 := nI_inj (by omega) (by omega) e1
        have q2 := nI_inj (by omega) (by omega) e2
        have q3 := nI_inj (by omega) (by omega) e3
        subst q1 q2 q3
        rw [hr65, ht, why_0 h6]
        refine ite_n (by decide) ?_
        have z0 : (10 + (3 * nI (ns (M.1 65)))) = nI (10 + 3 * ns (M.1 65) + 0) := by simp only [i_lit, nI_mul, nI_add, Nat.add_zero]
        have z1 : nI (10 + 3 * ns (M.1 65) + 0) + 1 = nI (10 + 3 * ns (M.1 65) + 1) := by simp only [i_lit, nI_add, Nat.add_zero]
        have z2 : nI (10 + 3 * ns (M.1 65) + 0) + 2 = nI (10 + 3 * ns (M.1 65) + 2) := by simp only [i_lit, nI_add, Nat.add_zero]
        rw [hS0, z0, z1, z2, nn_at (by omega), nn_at (by omega), nn_at (by omega)]
        refine ⟨vin_n (by omega) (by decide), vin_n (by omega) (by decide), vin_n (by omega) (by decide), ?_⟩
        have e65 : (mw (mw (mw M1 65 (10 + 3 * ns (M.1 65) + 0) (nI ja)) 65 (10 + 3 * ns (M.1 65) + 1) (nI jb)) 65 (10 + 3 * ns (M.1 65) + 2) (nI jc)).1 65 = upd (upd (upd (M.1 65) (10 + 3 * ns (M.1 65) + 0) (nI ja)) (10 + 3 * ns (M.1 65) + 1) (nI jb)) (10 + 3 * ns (M.1 65) + 2) (nI jc) := by
          rw [mw_at, mw_at, mw_at, hr65]
        have e0 : (mw (mw (mw M1 65 (10 + 3 * ns (M.1 65) + 0) (nI ja)) 65 (10 + 3 * ns (M.1 65) + 1) (nI jb)) 65 (10 + 3 * ns (M.1 65) + 2) (nI jc)).1 65 0 = nI (ns (M.1 65)) := by
          rw [e65, upd_ne _ _ (by omega), upd_ne _ _ (by omega), upd_ne _ _ (by omega), hS0]
        rw [e0, nI_1, nI_pred]
        have off : ∀ k, k ≠ 65 → (mw (mw (mw (mw M1 65 (10 + 3 * ns (M.1 65) + 0) (nI ja)) 65 (10 + 3 * ns (M.1 65) + 1) (nI jb)) 65 (10 + 3 * ns (M.1 65) + 2) (nI jc)) 65 0 (nI (ns (M.1 65) + 1))).1 k = M1.1 k := fun k hk => by
          rw [mw_ne _ _ _ hk, mw_ne _ _ _ hk, mw_ne _ _ _ hk, mw_ne _ _ _ hk]
        refine ⟨rfl, Inv_of hI (fun k hk => ?_) ?_⟩
        · rw [off k (by intro e; subst e; revert hk; decide)]
          exact hfr.2 k (fun e => by revert e hk; unfold oc wc; simp only [List.mem_append, List.mem_cons, List.not_mem_nil, or_false]; omega)
        · rw [mw_at, e65]
          refine IW_sales hI.1 (fun j h1 h2 h3 => sAdd_far _ _ _ h2 (by omega)) (fun k hk => ?_) (VS_add v1 h6 g1 g2 g3 g4 g5 ht) ?_
          · rw [off k (by intro e; subst e; revert hk; decide)]
            exact hfr.2 k (fun e => by revert e hk; simp only [List.mem_cons, List.not_mem_nil, or_false]; omega)
          · exact SKY_congr (VS_add v1 h6 g1 g2 g3 g4 g5 ht) rfl (fun _ _ _ => rfl) (by rw [off 15 (by decide)]) (off _ (by decide)) (off _ (by decide)) (off _ (by decide)) (off _ (by decide)) hsk
      · rw [why_4 h6] at no ⊢
        refine ite_n (by decide) ⟨vin (by decide), ?_⟩
        exact bad 4 (by decide) (by decide) (no 4 rfl)
    · rw [ht] at no
      rw [why_t] at no ⊢
      refine ite_n (by decide) ⟨vin (by decide), ?_⟩
      exact bad 3 (by decide) (by decide) (no 3 rfl)
