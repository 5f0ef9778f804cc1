def onO (P : Nat → Prop) (E : Prop) : Option Nat → Prop
  | none => E
  | some j => P j
theorem P_day {xs : gX} {d : Nat} {M : Mem} (hI : Inv M) (a b c w : Int32) : PB xs d mX8_day mX9_day [.int a, .int b, .int c, .int w] M := by
  obtain ⟨⟨v1, i1⟩, ⟨v2, i2⟩, ⟨v3, i3⟩, ⟨v4, i4⟩, i5⟩ := id hI.1
  have hT0 : M.1 65 1 = nI (N (M.1 65) 1) := v2.1
  have hT1 : M.1 20 1 = nI (N (M.1 65) 1) := i2.1.trans v2.1
  have hTn := v2.2.1
  have hP0 : M.1 65 2 = nI (N (M.1 65) 2) := v3.1
  have hP1 : M.1 22 2 = nI (N (M.1 65) 2) := i3.1.trans v3.1
  have hPn := v3.2.1
  have hS0 : M.1 65 0 = nI (ns (M.1 65)) := v1.1
  have hS1 : M.1 15 4 = nI (ns (M.1 65)) := i1.1.trans v1.1
  have hSn := v1.2.1
  rcases arg3 a 4 (by decide) with h | ⟨h0, h1⟩ | ⟨ja, hja, rfl⟩
  · apply wp_X8_day_0
    refine (ite_p h ?_)
    apply wp_X9_day_64
    exact (ite_p h ⟨rfl, Inv_err hI 1⟩)
  · apply wp_X8_day_0
    refine (ite_n h0 (ite_n h1 ?_))
    apply wp_X9_day_64
    exact (ite_n h0 (ite_p (ar_out (n := 3) rfl rfl (by decide) h1) ⟨rfl, Inv_err hI 1⟩))
  obtain ⟨a1, a2, a3⟩ := ar_in (n := 3) (x := 4) (y := 3) rfl rfl hja (by decide)
  rcases arg3 b 207 (by decide) with h | ⟨h0, h1⟩ | ⟨jb, hjb, rfl⟩
  · apply wp_X8_day_0
    refine (ite_n a1 (ite_p a2 (ite_p h ?_)))
    apply wp_X9_day_64
    exact (ite_n a1 (ite_n a3 (ite_p h ⟨rfl, Inv_err hI 1⟩)))
  · apply wp_X8_day_0
    refine (ite_n a1 (ite_p a2 (ite_n h0 (ite_n h1 ?_))))
    apply wp_X9_day_64
    exact (ite_n a1 (ite_n a3 (ite_n h0 (ite_p (ar_out (n := 206) rfl rfl (by decide) h1) ⟨rfl, Inv_err hI 1⟩))))
  obtain ⟨b1, b2, b3⟩ := ar_in (n := 206) (x := 207) (y := 206) rfl rfl hjb (by decide)
  rcases arg3 c 365 (by decide) with h | ⟨h0, h1⟩ | ⟨jc, hjc, rfl⟩
  · apply wp_X8_day_0
    refine (ite_n a1 (ite_p a2 (ite_n b1 (ite_p b2 (ite_p h ?_)))))
    apply wp_X9_day_64
    exact (ite_n a1 (ite_n a3 (ite_n b1 (ite_n b3 (ite_p h ⟨rfl, Inv_err hI 1⟩)))))
  · apply wp_X8_day_0
    refine (ite_n a1 (ite_p a2 (ite_n b1 (ite_p b2 (ite_n h0 (ite_n h1 ?_))))))
    apply wp_X9_day_64
    exact (ite_n a1 (ite_n a3 (ite_n b1 (ite_n b3 (ite_n h0 (ite_p (ar_out (n := 364) rfl rfl (by decide) h1) ⟨rfl, Inv_err hI 1⟩))))))
  obtain ⟨c1, c2, c3⟩ := ar_in (n := 364) (x := 365) (y := 364) rfl rfl hjc (by decide)
  rcases arg3 w 2 (by decide) with h | ⟨h0, h1⟩ | ⟨jw, hjw, rfl⟩
  · apply wp_X8_day_0
    refine (ite_n a1 (ite_p a2 (ite_n b1 (ite_p b2 (ite_n c1 (ite_p c2 (ite_p h ?_)))))))
    apply wp_X9_day_64
    exact (ite_n a1 (ite_n a3 (ite_n b1 (ite_n b3 (ite_n c1 (ite_n c3 (ite_p h ⟨rfl, Inv_err hI 1⟩)))))))
  · apply wp_X8_day_0
    refine (ite_n a1 (ite_p a2 (ite_n b1 (ite_p b2 (ite_n c1 (ite_p c2 (ite_n h0 (ite_n h1 ?_))))))))
    apply wp_X9_day_64
    exact (ite_n a1 (ite_n a3 (ite_n b1 (ite_n b3 (ite_n c1 (ite_n c3 (ite_n h0 (ite_p (ar_out (n := 1) rfl rfl (by decide) h1) ⟨rfl, Inv_err hI 1⟩))))))))
  obtain ⟨w1, w2, w3⟩ := ar_in (n := 1) (x := 2) (y := 1) rfl rfl hjw (by decide)
  have ref : ∀ (M0 : Mem) (Q : Int32 → Mem → Prop), IWM M0 → M0.1 65 = M.1 65 → (∀ M2, RC M0 M2 → onO (fun j => if jw = 0 then Q (nI (365 * j + jc)) M2 else onO (fun i => Q (nI (365 * i + jc)) M2) (Q (((-1000000000) : Int32) - 2) (mw M2 67 2 ((M2.1 67 2) + 1))) (fnd (M.1 65) ja jb (200 - (j + 1)) (j + 1))) (Q (((-1000000000) : Int32) - 2) (mw M2 67 2 ((M2.1 67 2) + 1))) (fnd (M.1 65) ja jb 200 0)) → MI xs (d + 7) mX9_day [.ref 64, .int (nI ja), .int (nI jb), .int (nI jc), .int (nI jw)] M0 Q := by
    intro M0 Q hI0 e0 hq
    apply wp_X9_day_64
    refine (ite_n a1 (ite_n a3 (ite_n b1 (ite_n b3 (ite_n c1 (ite_n c3 (ite_n w1 (ite_n w3 ?_))))))))
    refine namesR hI0 FR.rfl' (fun M2 h2 => ?_)
    have hq := hq M2 h2
    have hN : NMS M2 (M.1 65) := by rw [← e0]; exact h2.2
    have z : ∀ y, (200 * nI ja) + nI y = nI (200 * ja + y) := fun y => by simp only [i_lit, nI_mul, nI_add]
    have zz : ∀ y, (365 * nI y) + nI jc = nI (365 * y + jc) := fun y => by simp only [i_lit, nI_mul, nI_add]
    have k0 : ∀ m y, y + m = 200 → onO (fun i => Q (nI (365 * i + jc)) M2) (Q (((-1000000000) : Int32) - 2) (mw M2 67 2 ((M2.1 67 2) + 1))) (fnd (M.1 65) ja jb m y) → GW xs (d + 7) mX9_day 42 [(0, .ref 64), (1, .int (nI ja)), (2, .int (nI jb)), (3, .int (nI jc)), (4, .int (nI jw)), (5, .int (nI 0)), (6, .int (nI y))] [] M2 (QI Q) := by
      intro m
      induction m with
      | zero =>
        intro y hy hk
        apply wp_X9_day_64_L42
        exact ite_n (nI_nltI (b := 200) (by omega) (by decide) (by omega)) hk
      | succ m ih =>
        intro y hy hk
        have nn := nm_near v1 (c := ja) (y := y) (by omega)
        apply wp_X9_day_64_L42
        rw [z, nn_at (by omega), hN ja y hja (by omega), zz, nI_1]
        refine ite_p (nI_ltI' (b := 200) (by omega) (by decide) (by omega)) ⟨vin_n (by omega) (by decide), ?_⟩
        unfold fnd at hk
        by_cases q : nm (M.1 65) ja y = jb
        · rw [if_pos q] at hk
          exact ite_p (by rw [q]) (ite_p rfl hk)
        · rw [if_neg q] at hk
          exact ite_n (nI_ne (by omega) (by omega) q) (ih (y + 1) (by omega) hk)
    have k1 : ∀ m y, y + m = 200 → onO (fun j => onO (fun i => Q (nI (365 * i + jc)) M2) (Q (((-1000000000) : Int32) - 2) (mw M2 67 2 ((M2.1 67 2) + 1))) (fnd (M.1 65) ja jb (200 - (j + 1)) (j + 1))) (Q (((-1000000000) : Int32) - 2) (mw M2 67 2 ((M2.1 67 2) + 1))) (fnd (M.1 65) ja jb m y) → GW xs (d + 7) mX9_day 42 [(0, .ref 64), (1, .int (nI ja)), (2, .int (nI jb)), (3, .int (nI jc)), (4, .int (nI jw)), (5, .int (nI 1)), (6, .int (nI y))] [] M2 (QI Q) := by
      intro m
      induction m with
      | zero =>
        intro y hy hk
        apply wp_X9_day_64_L42
        exact ite_n (nI_nltI (b := 200) (by omega) (by decide) (by omega)) hk
      | succ m ih =>
        intro y hy hk
        have nn := nm_near v1 (c := ja) (y := y) (by omega)
        apply wp_X9_day_64_L42
        rw [z, nn_at (by omega), hN ja y hja (by omega), zz, nI_1]
        refine ite_p (nI_ltI' (b := 200) (by omega) (by decide) (by omega)) ⟨vin_n (by omega) (by decide), ?_⟩
        rw [show fnd (M.1 65) ja jb (m + 1) y = (if nm (M.1 65) ja y = jb then some y else fnd (M.1 65) ja jb m (y + 1)) from rfl] at hk
        by_cases q : nm (M.1 65) ja y = jb
        · rw [if_pos q] at hk
          refine ite_p (by rw [q]) (ite_n (by decide) ?_)
          exact k0 (200 - (y + 1)) (y + 1) (by omega) hk
        · rw [if_neg q] at hk
          exact ite_n (nI_ne (by omega) (by omega) q) (ih (y + 1) (by omega) hk)
    rcases (show jw = 0 ∨ jw = 1 by omega) with rfl | rfl
    · refine k0 200 0 (by omega) ?_
      cases hF : fnd (M.1 65) ja jb 200 0 with
      | none => rw [hF] at hq; exact hq
      | some j => rw [hF] at hq; exact hq
    · refine k1 200 0 (by omega) ?_
      cases hF : fnd (M.1 65) ja jb 200 0 with
      | none => rw [hF] at hq; exact hq
      | some j => rw [hF] at hq; exact hq
  have z3 : ∀ y, (nI y * 365) + nI jc = nI (365 * y + jc) := fun y => by simp only [i_lit, nI_mul, nI_add, Nat.mul_comm]
  apply wp_X8_day_0
  refine (ite_n a1 (ite_p a2 (ite_n b1 (ite_p b2 (ite_n c1 (ite_p c2 (ite_n w1 (ite_p w2 ?_))))))))
  refine yearNamed_ok (f := 0) hI.1 FR.rfl' hja hjb (by omega) ?_
  have e200 : fnd (M.1 65) ja jb (200 - 0) 0 = fnd (M.1 65) ja jb 200 0 := rfl
  rw [e200]
  cases hF : fnd (M.1 65) ja jb 200 0 with
  | none =>
    refine ite_p (by decide) (ref _ _ (IWM_6 hI.1 FR.rfl' 2 _) (mw_ne _ _ _ (by decide)) (fun M2 h2 => ?_))
    rw [hF]
    exact ⟨rfl, Inv_err2 hI 2 FR.rfl' h2.1⟩
  | some j =>
    have hj := fnd_lt _ _ _ hF
    refine ite_n (nI_lt0 (by omega)) ?_
    rcases (show jw = 0 ∨ jw = 1 by omega) with rfl | rfl
    · refine ite_n (by decide) ?_
      show MI xs (d + 7) mX9_day _ M (fun r2 M2 => (nI j * 365) + nI jc = r2 ∧ Inv M2)
      rw [z3]
      refine ref M _ hI.1 rfl (fun M2 h2 => ?_)
      rw [hF]
      exact ⟨rfl, Inv_FR hI h2.1⟩
    · refine ite_p rfl ?_
      show MI xs _ mX6_yearNamed [.ref 15, .int (nI ja), .int (nI jb), .int (nI j + 1)] M _
      rw [nI_1]
      refine yearNamed_ok (f := j + 1) hI.1 FR.rfl' hja hjb (by omega) ?_
      cases hG : fnd (M.1 65) ja jb (200 - (j + 1)) (j + 1) with
      | none =>
        refine ite_p (by decide) (ref _ _ (IWM_6 hI.1 FR.rfl' 2 _) (mw_ne _ _ _ (by decide)) (fun M2 h2 => ?_))
        rw [hF]
        show onO _ _ (fnd (M.1 65) ja jb (200 - (j + 1)) (j + 1))
        rw [hG]
        exact ⟨rfl, Inv_err2 hI 2 FR.rfl' h2.1⟩
      | some i =>
        have hi := fnd_lt _ _ _ hG
        refine ite_n (nI_lt0 (by omega)) ?_
        show MI xs (d + 7) mX9_day _ M (fun r2 M2 => (nI i * 365) + nI jc = r2 ∧ Inv M2)
        rw [z3]
        refine ref M _ hI.1 rfl (fun M2 h2 => ?_)
        rw [hF]
        show onO _ _ (fnd (M.1 65) ja jb (200 - (j + 1)) (j + 1))
        rw [hG]
        exact ⟨rfl, Inv_FR hI h2.1⟩
