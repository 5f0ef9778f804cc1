/-! ===== claim ===== -/
def anyF (s : Nat → Int32) (c a st : Nat) : Nat → Nat → Bool
  | 0, _ => false
  | m + 1, y => if y < 200 then (decide (nm s c y = a) || anyF s c a st m (y + st)) else false
theorem anyF_end {s : Nat → Int32} {c a st y : Nat} (hy : ¬ y < 200) : ∀ m, anyF s c a st m y = false := by
  intro m
  cases m with
  | zero => rfl
  | succ m => exact if_neg hy
theorem anyF_step {s : Nat → Int32} {c a st y m : Nat} (hy : y < 200) : anyF s c a st (m + 1) y = (decide (nm s c y = a) || anyF s c a st m (y + st)) := if_pos hy
theorem isComet_ok {xs : gX} {d : Nat} {M : Mem} {Q : Int32 → Mem → Prop} {c a st D : Nat} (hI : IWM M) (hc : c < 4) (ha : a < 207) (h11 : M.1 1 11 = nI D) (h12 : M.1 1 12 = nI st) (hD : D < 73000) (hs1 : 1 ≤ st) (hs : st < 100) (hQ : Q (b2 (anyF (M.1 65) c a st 200 (D / 365))) M) : MI xs (d + 1) mX7_isCometIn [.ref 1, .int (nI c), .int (nI a)] M Q := by
  have hV := hI.1.1
  have key : ∀ m y, 200 ≤ y + m → y < 300 → Q (b2 (anyF (M.1 65) c a st m y)) M → GW xs (d + 1) mX7_isCometIn 19 [(0, .ref 1), (1, .int (nI c)), (2, .int (nI a)), (3, .int (nI y))] [] M (QI Q) := by
    intro m
    induction m with
    | zero =>
      intro y hm hy hq
      apply wp_X7_isCometIn_1_L19
      exact ite_n (nI_nltI (b := 200) (by omega) (by decide) (by omega)) hq
    | succ m ih =>
      intro y hm hy hq
      apply wp_X7_isCometIn_1_L19
      by_cases h : y < 200
      · have nn := nm_near hV (c := c) (y := y) (by omega)
        rw [anyF_step h] at hq
        refine ite_p (nI_ltI' (b := 200) (by omega) (by decide) h) (nameC hI FR.rfl' (by omega) hy ?_)
        by_cases q : nm (M.1 65) c y = a
        · rw [decide_eq_true q, Bool.true_or] at hq
          exact ite_p (by rw [q]) hq
        · rw [decide_eq_false q, Bool.false_or] at hq
          rw [h12, nI_add]
          exact ite_n (nI_ne (by omega) (by omega) q) (ih (y + st) (by omega) (by omega) hq)
      · rw [anyF_end h] at hq
        exact ite_n (nI_nltI (b := 200) (by omega) (by decide) (by omega)) hq
  apply wp_X7_isCometIn_1
  rw [h11, h12, show (365 : Int32) = nI 365 from rfl, pk_div (by omega) (by omega) (by omega)]
  exact ite_n (nI_nltI (b := 1) (by omega) (by decide) hs1) (key 200 _ (by omega) (by omega) hQ)
def mk4 (b0 b1 b2 b3 : Bool) : Int32 := (if b0 then 1 else 0) ||| (if b1 then 2 else 0) ||| (if b2 then 4 else 0) ||| (if b3 then 8 else 0)
theorem mk4_0 : ∀ b0 b1 b2 b3 : Bool, mk4 b0 b1 b2 b3 ||| ((1 : Int32) <<< ((nI 0 : Int32) &&& 31)) = mk4 true b1 b2 b3 := by decide +kernel
theorem mk4_1 : ∀ b0 b1 b2 b3 : Bool, mk4 b0 b1 b2 b3 ||| ((1 : Int32) <<< ((nI 1 : Int32) &&& 31)) = mk4 b0 true b2 b3 := by decide +kernel
theorem mk4_2 : ∀ b0 b1 b2 b3 : Bool, mk4 b0 b1 b2 b3 ||| ((1 : Int32) <<< ((nI 2 : Int32) &&& 31)) = mk4 b0 b1 true b3 := by decide +kernel
theorem mk4_3 : ∀ b0 b1 b2 b3 : Bool, mk4 b0 b1 b2 b3 ||| ((1 : Int32) <<< ((nI 3 : Int32) &&& 31)) = mk4 b0 b1 b2 true := by decide +kernel
theorem mk4_z : ∀ b0 b1 b2 b3 : Bool, mk4 b0 b1 b2 b3 ||| 0 = mk4 b0 b1 b2 b3 := by decide +kernel
theorem P_claim {xs : gX} {d : Nat} {M : Mem} (hI : Inv M) (a : Int32) : PB xs d mX8_claim mX9_claim [.int a] M := by
  obtain ⟨⟨v1, i1⟩, ⟨v2, i2⟩, ⟨v3, i3⟩, ⟨v4, i4⟩, i5⟩ := id hI.1
  have hT0 : M.1 65 1 = nI (N (M.1 65) 1) := v2.1
  have hT1 : M.1 20 1 = nI (N (M.1 65) 1) := i2.1.trans v2.1
  have hTn := v2.2.1
  have hP0 : M.1 65 2 = nI (N (M.1 65) 2) := v3.1
  have hP1 : M.1 22 2 = nI (N (M.1 65) 2) := i3.1.trans v3.1
  have hPn := v3.2.1
  have hS0 : M.1 65 0 = nI (ns (M.1 65)) := v1.1
  have hS1 : M.1 15 4 = nI (ns (M.1 65)) := i1.1.trans v1.1
  have hSn := v1.2.1
  rcases arg3 a 207 (by decide) with h | ⟨h0, h1⟩ | ⟨ja, hja, rfl⟩
  · apply wp_X8_claim_0
    refine (ite_p h ?_)
    apply wp_X9_claim_64
    exact (ite_p h ⟨rfl, Inv_err hI 1⟩)
  · apply wp_X8_claim_0
    refine (ite_n h0 (ite_n h1 ?_))
    apply wp_X9_claim_64
    exact (ite_n h0 (ite_p (ar_out (n := 206) rfl rfl (by decide) h1) ⟨rfl, Inv_err hI 1⟩))
  obtain ⟨a1, a2, a3⟩ := ar_in (n := 206) (x := 207) (y := 206) rfl rfl hja (by decide)
  obtain ⟨-, -, c3, -⟩ := id i4
  rcases c3 with ⟨e4, e12⟩ | ⟨e4, e11, e12⟩
  · apply wp_X8_claim_0
    refine (ite_n a1 (ite_p a2 ?_))
    refine ite_p e12 ?_
    apply wp_X9_claim_64
    refine (ite_n a1 (ite_n a3 ?_))
    rw [mw_ne _ _ _ (by decide : (65 : Nat) ≠ 6)]
    exact ite_p e4 ⟨rfl, Inv_err hI 3⟩
  rcases v4.2.1 with q | ⟨q1, q2, q3⟩
  · exact absurd q e4
  obtain ⟨D, hD, eD⟩ : ∃ D, D < 73000 ∧ M.1 65 4 = nI D := ⟨_, (vin_get q1 (by decide)).2, (vin_get q1 (by decide)).1⟩
  obtain ⟨st, hst, eS⟩ : ∃ st, st < 100 ∧ M.1 65 5 = nI st := ⟨_, (vin_get q2 (by decide)).2, (vin_get q2 (by decide)).1⟩
  have hs1 : 1 ≤ st := by
    by_cases z : st = 0
    · subst z; exact absurd eS q3
    · omega
  rw [eD] at e11
  rw [eS] at e12
  obtain ⟨B, hB⟩ : ∃ B, B = fun c => anyF (M.1 65) c ja st 200 (D / 365) := ⟨_, rfl⟩
  have cls : ∀ Q : Int32 → Mem → Prop, Q (mk4 (B 0) (B 1) (B 2) (B 3)) M → GW xs (d + 7) mX8_claim 36 [(0, .ref 0), (1, .int (nI ja)), (2, .int (mk4 false false false false)), (3, .int (nI 0))] [] M (QI Q) := by
    intro Q hQ
    have g0 : ∀ Q : Int32 → Mem → Prop, (GW xs (d + 7) mX8_claim 36 [(0, .ref 0), (1, .int (nI ja)), (2, .int (mk4 (B 0) false false false)), (3, .int (nI 1))] [] M (QI Q)) → GW xs (d + 7) mX8_claim 36 [(0, .ref 0), (1, .int (nI ja)), (2, .int (mk4 false false false false)), (3, .int (nI 0))] [] M (QI Q) := by
      intro Q hq
      apply wp_X8_claim_0_L36
      refine ite_p (by decide) (isComet_ok hI.1 (by omega) hja e11 e12 hD hs1 hst ?_)
      rw [nI_1, mk4_0]
      have eB : B 0 = anyF (M.1 65) 0 ja st 200 (D / 365) := by rw [hB]
      rw [← eB]
      cases hb : B 0
      · rw [hb] at hq; exact ite_p rfl hq
      · rw [hb] at hq; exact ite_n (by decide) hq
    have g1 : ∀ Q : Int32 → Mem → Prop, (GW xs (d + 7) mX8_claim 36 [(0, .ref 0), (1, .int (nI ja)), (2, .int (mk4 (B 0) (B 1) false false)), (3, .int (nI 2))] [] M (QI Q)) → GW xs (d + 7) mX8_claim 36 [(0, .ref 0), (1, .int (nI ja)), (2, .int (mk4 (B 0) false false false)), (3, .int (nI 1))] [] M (QI Q) := by
      intro Q hq
      apply wp_X8_claim_0_L36
      refine ite_p (by decide) (isComet_ok hI.1 (by omega) hja e11 e12 hD hs1 hst ?_)
      rw [nI_1, mk4_1]
      have eB : B 1 = anyF (M.1 65) 1 ja st 200 (D / 365) := by rw [hB]
      rw [← eB]
      cases hb : B 1
      · rw [hb] at hq; exact ite_p rfl hq
      · rw [hb] at hq; exact ite_n (by decide) hq
    have g2 : ∀ Q : Int32 → Mem → Prop, (GW xs (d + 7) mX8_claim 36 [(0, .ref 0), (1, .int (nI ja)), (2, .int (mk4 (B 0) (B 1) (B 2) false)), (3, .int (nI 3))] [] M (QI Q)) → GW xs (d + 7) mX8_claim 36 [(0, .ref 0), (1, .int (nI ja)), (2, .int (mk4 (B 0) (B 1) false false)), (3, .int (nI 2))] [] M (QI Q) := by
      intro Q hq
      apply wp_X8_claim_0_L36
      refine ite_p (by decide) (isComet_ok hI.1 (by omega) hja e11 e12 hD hs1 hst ?_)
      rw [nI_1, mk4_2]
      have eB : B 2 = anyF (M.1 65) 2 ja st 200 (D / 365) := by rw [hB]
      rw [← eB]
      cases hb : B 2
      · rw [hb] at hq; exact ite_p rfl hq
      · rw [hb] at hq; exact ite_n (by decide) hq
    have g3 : ∀ Q : Int32 → Mem → Prop, (GW xs (d + 7) mX8_claim 36 [(0, .ref 0), (1, .int (nI ja)), (2, .int (mk4 (B 0) (B 1) (B 2) (B 3))), (3, .int (nI 4))] [] M (QI Q)) → GW xs (d + 7) mX8_claim 36 [(0, .ref 0), (1, .int (nI ja)), (2, .int (mk4 (B 0) (B 1) (B 2) false)), (3, .int (nI 3))] [] M (QI Q) := by
      intro Q hq
      apply wp_X8_claim_0_L36
      refine ite_p (by decide) (isComet_ok hI.1 (by omega) hja e11 e12 hD hs1 hst ?_)
      rw [nI_1, mk4_3]
      have eB : B 3 = anyF (M.1 65) 3 ja st 200 (D / 365) := by rw [hB]
      rw [← eB]
      cases hb : B 3
      · rw [hb] at hq; exact ite_p rfl hq
      · rw [hb] at hq; exact ite_n (by decide) hq
    refine g0 Q (g1 Q (g2 Q (g3 Q ?_)))
    apply wp_X8_claim_0_L36
    exact ite_n (by decide) hQ
  have rfl1 : ∀ (Q : Int32 → Mem → Prop) (M1 : Mem), RC M M1 → ∀ m y b0 b1 b2 b3, 200 ≤ y + m → y < 300 → Q (mk4 (b0 || anyF (M.1 65) 0 ja st m y) (b1 || anyF (M.1 65) 1 ja st m y) (b2 || anyF (M.1 65) 2 ja st m y) (b3 || anyF (M.1 65) 3 ja st m y)) M1 → GW xs (d + 7) mX9_claim 50 [(0, .ref 64), (1, .int (nI ja)), (2, .int (mk4 b0 b1 b2 b3)), (3, .int (nI y))] [] M1 (QI Q) := by
    intro Q M1 h1 m
    induction m with
    | zero =>
      intro y b0 b1 b2 b3 hm hy hq
      apply wp_X9_claim_64_L50
      refine ite_n (nI_nltI (b := 200) (by omega) (by decide) (by omega)) ?_
      rw [anyF_end (by omega), anyF_end (by omega), anyF_end (by omega), anyF_end (by omega), Bool.or_false, Bool.or_false, Bool.or_false, Bool.or_false] at hq
      exact hq
    | succ m ih =>
      intro y b0 b1 b2 b3 hm hy hq
      apply wp_X9_claim_64_L50
      by_cases h : y < 200
      · refine ite_p (nI_ltI' (b := 200) (by omega) (by decide) h) ?_
        rw [anyF_step h, anyF_step h, anyF_step h, anyF_step h, ← Bool.or_assoc, ← Bool.or_assoc, ← Bool.or_assoc, ← Bool.or_assoc] at hq
        have nx := ih (y + st) (b0 || decide (nm (M.1 65) 0 y = ja)) (b1 || decide (nm (M.1 65) 1 y = ja)) (b2 || decide (nm (M.1 65) 2 y = ja)) (b3 || decide (nm (M.1 65) 3 y = ja)) (by omega) (by omega) hq
        have z : ∀ c, (200 * nI c) + nI y = nI (200 * c + y) := fun c => by simp only [i_lit, nI_mul, nI_add]
        have g0 : (GW xs (d + 7) mX9_claim 60 [(0, .ref 64), (1, .int (nI ja)), (2, .int (mk4 (b0 || decide (nm (M.1 65) 0 y = ja)) b1 b2 b3)), (3, .int (nI y)), (4, .int (nI 1))] [] M1 (QI Q)) → GW xs (d + 7) mX9_claim 60 [(0, .ref 64), (1, .int (nI ja)), (2, .int (mk4 b0 b1 b2 b3)), (3, .int (nI y)), (4, .int (nI 0))] [] M1 (QI Q) := by
          intro hq
          have nn := nm_near v1 (c := 0) (y := y) (by omega)
          apply wp_X9_claim_64_L60
          rw [z, nn_at (by omega), h1.2 0 y (by omega) h, nI_1, mk4_0, mk4_z]
          refine ite_p (by decide) ⟨vin_n (by omega) (by decide), ?_⟩
          by_cases q : nm (M.1 65) 0 y = ja
          · rw [decide_eq_true q, Bool.or_true] at hq
            exact ite_p (by rw [q]) hq
          · rw [decide_eq_false q, Bool.or_false] at hq
            exact ite_n (nI_ne (by omega) (by omega) q) hq
        have g1 : (GW xs (d + 7) mX9_claim 60 [(0, .ref 64), (1, .int (nI ja)), (2, .int (mk4 (b0 || decide (nm (M.1 65) 0 y = ja)) (b1 || decide (nm (M.1 65) 1 y = ja)) b2 b3)), (3, .int (nI y)), (4, .int (nI 2))] [] M1 (QI Q)) → GW xs (d + 7) mX9_claim 60 [(0, .ref 64), (1, .int (nI ja)), (2, .int (mk4 (b0 || decide (nm (M.1 65) 0 y = ja)) b1 b2 b3)), (3, .int (nI y)), (4, .int (nI 1))] [] M1 (QI Q) := by
          intro hq
          have nn := nm_near v1 (c := 1) (y := y) (by omega)
          apply wp_X9_claim_64_L60
          rw [z, nn_at (by omega), h1.2 1 y (by omega) h, nI_1, mk4_1, mk4_z]
          refine ite_p (by decide) ⟨vin_n (by omega) (by decide), ?_⟩
          by_cases q : nm (M.1 65) 1 y = ja
          · rw [decide_eq_true q, Bool.or_true] at hq
            exact ite_p (by rw [q]) hq
          · rw [decide_eq_false q, Bool.or_false] at hq
            exact ite_n (nI_ne (by omega) (by omega) q) hq
        have g2 : (GW xs (d + 7) mX9_claim 60 [(0, .ref 64), (1, .int (nI ja)), (2, .int (mk4 (b0 || decide (nm (M.1 65) 0 y = ja)) (b1 || decide (nm (M.1 65) 1 y = ja)) (b2 || decide (nm (M.1 65) 2 y = ja)) b3)), (3, .int (nI y)), (4, .int (nI 3))] [] M1 (QI Q)) → GW xs (d + 7) mX9_claim 60 [(0, .ref 64), (1, .int (nI ja)), (2, .int (mk4 (b0 || decide (nm (M.1 65) 0 y = ja)) (b1 || decide (nm (M.1 65) 1 y = ja)) b2 b3)), (3, .int (nI y)), (4, .int (nI 2))] [] M1 (QI Q) := by
          intro hq
          have nn := nm_near v1 (c := 2) (y := y) (by omega)
          apply wp_X9_claim_64_L60
          rw [z, nn_at (by omega), h1.2 2 y (by omega) h, nI_1, mk4_2, mk4_z]
          refine ite_p (by decide) ⟨vin_n (by omega) (by decide), ?_⟩
          by_cases q : nm (M.1 65) 2 y = ja
          · rw [decide_eq_true q, Bool.or_true] at hq
            exact ite_p (by rw [q]) hq
          · rw [decide_eq_false q, Bool.or_false] at hq
            exact ite_n (nI_ne (by omega) (by omega) q) hq
        have g3 : (GW xs (d + 7) mX9_claim 60 [(0, .ref 64), (1, .int (nI ja)), (2, .int (mk4 (b0 || decide (nm (M.1 65) 0 y = ja)) (b1 || decide (nm (M.1 65) 1 y = ja)) (b2 || decide (nm (M.1 65) 2 y = ja)) (b3 || decide (nm (M.1 65) 3 y = ja)))), (3, .int (nI y)), (4, .int (nI 4))] [] M1 (QI Q)) → GW xs (d + 7) mX9_claim 60 [(0, .ref 64), (1, .int (nI ja)), (2, .int (mk4 (b0 || decide (nm (M.1 65) 0 y = ja)) (b1 || decide (nm (M.1 65) 1 y = ja)) (b2 || decide (nm (M.1 65) 2 y = ja)) b3)), (3, .int (nI y)), (4, .int (nI 3))] [] M1 (QI Q) := by
          intro hq
          have nn := nm_near v1 (c := 3) (y := y) (by omega)
          apply wp_X9_claim_64_L60
          rw [z, nn_at (by omega), h1.2 3 y (by omega) h, nI_1, mk4_3, mk4_z]
          refine ite_p (by decide) ⟨vin_n (by omega) (by decide), ?_⟩
          by_cases q : nm (M.1 65) 3 y = ja
          · rw [decide_eq_true q, Bool.or_true] at hq
            exact ite_p (by rw [q]) hq
          · rw [decide_eq_false q, Bool.or_false] at hq
            exact ite_n (nI_ne (by omega) (by omega) q) hq
        refine g0 (g1 (g2 (g3 ?_)))
        apply wp_X9_claim_64_L60
        rw [s65 h1.1, eS, nI_add]
        exact ite_n (by decide) nx
      · refine ite_n (nI_nltI (b := 200) (by omega) (by decide) (by omega)) ?_
        rw [anyF_end h, anyF_end h, anyF_end h, anyF_end h, Bool.or_false, Bool.or_false, Bool.or_false, Bool.or_false] at hq
        exact hq
  apply wp_X8_claim_0
  refine (ite_n a1 (ite_p a2 ?_))
  refine ite_n (by rw [e12]; exact nI_ne (b := 0) (by omega) (by decide) (by omega)) (cls _ ?_)
  apply wp_X9_claim_64
  refine (ite_n a1 (ite_n a3 ?_))
  refine ite_n e4 (namesR hI.1 FR.rfl' (fun M2 h2 => ?_))
  rw [s65 h2.1, eD, show (365 : Int32) = nI 365 from rfl, pk_div (by omega) (by omega) (by omega)]
  refine rfl1 _ M2 h2 200 (D / 365) false false false false (by omega) (by omega) ?_
  rw [hB, Bool.false_or, Bool.false_or, Bool.false_or, Bool.false_or]
  exact ⟨rfl, Inv_FR hI h2.1⟩
