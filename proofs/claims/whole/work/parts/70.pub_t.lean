/-! ===== move, judge, papers, clerk ===== -/
theorem sub_toI {a b : Nat} (ha : a < 2 ^ 31) (hb : b < 2 ^ 31) : (nI a - nI b).toInt = (a : Int) - b := by
  rw [Int32.toInt_sub, nI_toInt ha, nI_toInt hb, Int.bmod_def]
  omega
theorem P_move {xs : gX} {d : Nat} {M : Mem} (hI : Inv M) (a b c w x : Int32) : PB xs d mX8_move mX9_move [.int a, .int b, .int c, .int w, .int x] M := by
  have hS := hI.2.2.2.2
  rcases arg3 a 4 (by decide) with h | ⟨h0, h1⟩ | ⟨ja, hja, rfl⟩
  · apply wp_X8_move_0
    refine (ite_p h ?_)
    apply wp_X9_move_64
    exact (ite_p h ⟨rfl, Inv_err hI 1⟩)
  · apply wp_X8_move_0
    refine (ite_n h0 (ite_n h1 ?_))
    apply wp_X9_move_64
    exact (ite_n h0 (ite_p (ar_out (n := 3) rfl rfl (by decide) h1) ⟨rfl, Inv_err hI 1⟩))
  obtain ⟨a1, a2, a3⟩ := ar_in (n := 3) (x := 4) (y := 3) rfl rfl hja (by decide)
  rcases arg3 c 4 (by decide) with h | ⟨h0, h1⟩ | ⟨jc, hjc, rfl⟩
  · apply wp_X8_move_0
    refine (ite_n a1 (ite_p a2 (ite_p h ?_)))
    apply wp_X9_move_64
    exact (ite_n a1 (ite_n a3 (ite_p h ⟨rfl, Inv_err hI 1⟩)))
  · apply wp_X8_move_0
    refine (ite_n a1 (ite_p a2 (ite_n h0 (ite_n h1 ?_))))
    apply wp_X9_move_64
    exact (ite_n a1 (ite_n a3 (ite_n h0 (ite_p (ar_out (n := 3) rfl rfl (by decide) h1) ⟨rfl, Inv_err hI 1⟩))))
  obtain ⟨c1, c2, c3⟩ := ar_in (n := 3) (x := 4) (y := 3) rfl rfl hjc (by decide)
  obtain ⟨s1, s2, s3, s4, s5, s6⟩ := hS ja hja
  obtain ⟨t1, t2, t3, t4, t5, t6⟩ := hS jc hjc
  obtain ⟨k1, hc1, ec1⟩ : ∃ cn, cn < 25 ∧ M.1 79 ja = nI cn := ⟨_, (vin_get s4 (by decide)).2, (vin_get s4 (by decide)).1⟩
  obtain ⟨k3, hc3, ec3⟩ : ∃ cn, cn < 25 ∧ M.1 79 jc = nI cn := ⟨_, (vin_get t4 (by decide)).2, (vin_get t4 (by decide)).1⟩
  refine moveC hja hjc ?_
  unfold mvF
  rw [s1, t1, s3, t3, ec1, ec3]
  have E : ∀ (M0 : Mem) (Q : Int32 → Mem → Prop), M0.1 78 = M.1 78 → M0.1 79 = M.1 79 → (if M.1 78 ja = 0 then Q (((-1000000000) : Int32) - 2) (mw M0 67 2 ((M0.1 67 2) + 1)) else (if M.1 78 jc = 0 then Q (((-1000000000) : Int32) - 2) (mw M0 67 2 ((M0.1 67 2) + 1)) else (if M.1 78 ja = M.1 78 jc then (if x < 0 then Q (((-1000000000) : Int32) - 1) (mw M0 67 1 ((M0.1 67 1) + 1)) else (if b < 0 then Q (((-1000000000) : Int32) - 1) (mw M0 67 1 ((M0.1 67 1) + 1)) else (if w < 0 then Q (((-1000000000) : Int32) - 1) (mw M0 67 1 ((M0.1 67 1) + 1)) else (if (nI k1 - x) < b then Q (((-1000000000) : Int32) - 1) (mw M0 67 1 ((M0.1 67 1) + 1)) else (if (nI k3 - x) < w then Q (((-1000000000) : Int32) - 1) (mw M0 67 1 ((M0.1 67 1) + 1)) else GW xs (d + 7) mX9_move 115 [(0, .ref 64), (1, .int (nI ja)), (2, .int b), (3, .int (nI jc)), (4, .int w), (5, .int x), (6, .int 0)] [] M0 (QI Q)))))) else Q (((-1000000000) : Int32) - 5) (mw M0 67 5 ((M0.1 67 5) + 1))))) → MI xs (d + 7) mX9_move [.ref 64, .int (nI ja), .int b, .int (nI jc), .int w, .int x] M0 Q := by
    intro M0 Q e78 e79 h
    apply wp_X9_move_64
    refine (ite_n a1 (ite_n a3 (ite_n c1 (ite_n c3 ?_))))
    rw [nn_at (n := ja) (by omega), nn_at (n := jc) (by omega), e78, e79, ec1, ec3]
    refine ⟨vin_n hja (by decide), ?_⟩
    by_cases z1 : M.1 78 ja = 0
    · rw [if_pos z1] at h; exact ite_p z1 h
    · rw [if_neg z1] at h
      refine ite_n z1 ⟨vin_n hjc (by decide), ?_⟩
      exact h
  by_cases z1 : M.1 78 ja = 0
  · exact ite_p z1 (E _ _ (mw_ne _ _ _ (by decide)) (mw_ne _ _ _ (by decide)) (ite_p z1 ⟨rfl, Inv_err hI 2⟩))
  refine ite_n z1 ?_
  by_cases z2 : M.1 78 jc = 0
  · exact ite_p z2 (E _ _ (mw_ne _ _ _ (by decide)) (mw_ne _ _ _ (by decide)) (ite_n z1 (ite_p z2 ⟨rfl, Inv_err hI 2⟩)))
  refine ite_n z2 ?_
  by_cases z3 : M.1 78 ja = M.1 78 jc
  case neg => exact ite_n z3 (E _ _ (mw_ne _ _ _ (by decide)) (mw_ne _ _ _ (by decide)) (ite_n z1 (ite_n z2 (ite_n z3 ⟨rfl, Inv_err hI 5⟩))))
  refine ite_p z3 ?_
  have E := fun M0 Q h1 h2 h => E M0 Q h1 h2 (ite_n z1 (ite_n z2 (ite_p z3 h)))
  -- the reference refuses just as the class does
  have bad : ¬ (¬ x < 0 ∧ ¬ b < 0 ∧ ¬ w < 0 ∧ ¬ (nI k1 - x) < b ∧ ¬ (nI k3 - x) < w) → MI xs (d + 7) mX9_move [.ref 64, .int (nI ja), .int b, .int (nI jc), .int w, .int x] (mw M 6 1 (M.1 6 1 + 1)) (fun r2 M2 => ((-1000000000) : Int32) - 1 = r2 ∧ Inv M2) := by
    intro hn
    refine E _ _ (mw_ne _ _ _ (by decide)) (mw_ne _ _ _ (by decide)) ?_
    by_cases y1 : x < 0
    · exact ite_p y1 ⟨rfl, Inv_err hI 1⟩
    · by_cases y2 : b < 0
      · exact ite_n y1 (ite_p y2 ⟨rfl, Inv_err hI 1⟩)
      · by_cases y3 : w < 0
        · exact ite_n y1 (ite_n y2 (ite_p y3 ⟨rfl, Inv_err hI 1⟩))
        · by_cases y4 : (nI k1 - x) < b
          · exact ite_n y1 (ite_n y2 (ite_n y3 (ite_p y4 ⟨rfl, Inv_err hI 1⟩)))
          · by_cases y5 : (nI k3 - x) < w
            · exact ite_n y1 (ite_n y2 (ite_n y3 (ite_n y4 (ite_p y5 ⟨rfl, Inv_err hI 1⟩))))
            · exact absurd ⟨y1, y2, y3, y4, y5⟩ hn
  by_cases y1 : x < 0
  · exact ite_p y1 (bad (fun z => z.1 y1))
  refine ite_n y1 ?_
  obtain ⟨n, hn, rfl⟩ := nI_of y1
  have d1 := sub_toI (a := k1) (b := n) (by omega) hn
  have d3 := sub_toI (a := k3) (b := n) (by omega) hn
  by_cases y2 : nI k1 < nI n
  · refine ite_p y2 (bad (fun z => ?_))
    have zb := z.2.1
    have z4 := z.2.2.2.1
    rw [Int32.lt_iff_toInt_lt] at zb z4 y2
    rw [d1] at z4
    rw [nI_toInt (by omega), nI_toInt hn] at y2
    have : (0 : Int32).toInt = 0 := by decide
    omega
  refine ite_n y2 ?_
  by_cases y3 : b < 0
  · exact ite_p y3 (bad (fun z => z.2.1 y3))
  refine ite_n y3 ?_
  by_cases y4 : (nI k1 - nI n) < b
  · exact ite_p y4 (bad (fun z => z.2.2.2.1 y4))
  refine ite_n y4 ?_
  by_cases y5 : nI k3 < nI n
  · refine ite_p y5 (bad (fun z => ?_))
    have zb := z.2.2.1
    have z4 := z.2.2.2.2
    rw [Int32.lt_iff_toInt_lt] at zb z4 y5
    rw [d3] at z4
    rw [nI_toInt (by omega), nI_toInt hn] at y5
    have : (0 : Int32).toInt = 0 := by decide
    omega
  refine ite_n y5 ?_
  by_cases y6 : w < 0
  · exact ite_p y6 (bad (fun z => z.2.2.1 y6))
  refine ite_n y6 ?_
  by_cases y7 : (nI k3 - nI n) < w
  · exact ite_p y7 (bad (fun z => z.2.2.2.2 y7))
  refine ite_n y7 ?_
  obtain ⟨i, hi, rfl⟩ := nI_of y3
  obtain ⟨j, hj, rfl⟩ := nI_of y6
  have f1 : i + n ≤ k1 := by
    rw [Int32.lt_iff_toInt_lt, d1, nI_toInt hi] at y4
    omega
  have f3 : j + n ≤ k3 := by
    rw [Int32.lt_iff_toInt_lt, d3, nI_toInt hj] at y7
    omega
  rw [nn_at hi, nn_at hj, nn_at hn]
  refine ⟨⟨y3, y6, y1, by rw [nn_at hi, nn_at hn]; omega, by rw [nn_at hj, nn_at hn]; omega⟩, ?_⟩
  obtain ⟨M1, hM1⟩ : ∃ M1, M1 = mwA M (11 + jc) (va_cpy (M.1 (11 + ja)) (M.1 (11 + jc)) i j n) := ⟨_, rfl⟩
  rw [← hM1]
  have m11 : M1.1 (11 + jc) = va_cpy (M.1 (11 + ja)) (M.1 (11 + jc)) i j n := by rw [hM1, mwA_at]
  have mo : ∀ k, k ≠ 11 + jc → M1.1 k = M.1 k := fun k hk => by rw [hM1, mwA_ne _ _ hk]
  refine E M1 _ (mo _ (by omega)) (mo _ (by omega)) (ite_n y1 (ite_n y3 (ite_n y6 (ite_n y4 (ite_n y7 ?_)))))
  have zi : ∀ k, ((24 * nI ja) + nI i) + nI k = nI (24 * ja + i + k) := fun k => by simp only [i_lit, nI_mul, nI_add]
  have zj : ∀ k, ((24 * nI jc) + nI j) + nI k = nI (24 * jc + j + k) := fun k => by simp only [i_lit, nI_mul, nI_add]
  have second : ∀ (f : Nat → Int32), (∀ y, y < n → f y = M.1 80 (24 * ja + i + y)) → ∀ m k g, k + m = n → (∀ y, y < k → g (24 * jc + j + y) = f y) → (∀ y, y < 24 * jc + j ∨ 24 * jc + j + k ≤ y → g y = M.1 80 y) → GW xs (d + 7) mX9_move 152 [(0, .ref 64), (1, .int (nI ja)), (2, .int (nI i)), (3, .int (nI jc)), (4, .int (nI j)), (5, .int (nI n)), (6, .int (nI k))] [] (mwA (mwA M1 81 f) 80 g) (QI (fun r2 M2 => nI n = r2 ∧ Inv M2)) := by
    intro f hf m
    induction m with
    | zero =>
      intro k g hk hg1 hg2
      obtain rfl : k = n := by omega
      apply wp_X9_move_64_L152
      refine ite_n (nI_nltI (by omega) (by omega) (by omega)) ⟨rfl, Inv_she hI (fun q hq => ?_) (fun q hq => ?_)⟩
      · simp only [List.mem_cons, List.not_mem_nil, or_false] at hq
        rw [mwA_ne _ _ (by omega), mwA_ne _ _ (by omega), mo _ (by omega)]
      · have o : ∀ z, z ≠ 80 → z ≠ 81 → z ≠ 11 + jc → (mwA (mwA M1 81 f) 80 g).1 z = M.1 z := fun z h1 h2 h3 => by rw [mwA_ne _ _ h1, mwA_ne _ _ h2, mo _ h3]
        obtain ⟨u1, u2, u3, u4, u5, u6⟩ := hS q hq
        rw [mwA_at, o _ (by omega) (by omega) (by omega), o 78 (by omega) (by omega) (by omega), o 79 (by omega) (by omega) (by omega)]
        refine ⟨u1, u2, u3, u4, u5, fun y hy => ?_⟩
        by_cases e : q = jc
        · subst e
          rw [mwA_ne _ _ (by omega), mwA_ne _ _ (by omega), m11]
          by_cases e2 : j ≤ y ∧ y < j + k
          · rw [pk_cpy_in e2.1 e2.2, s6 _ (by omega)]
            have g1 := hg1 (y - j) (by omega)
            rw [show 24 * q + j + (y - j) = 24 * q + y by omega] at g1
            rw [g1, hf _ (by omega), show 24 * ja + i + (y - j) = 24 * ja + (i + (y - j)) by omega]
          · rw [pk_cpy_out (by omega), u6 y hy, hg2 _ (by omega)]
        · rw [o _ (by omega) (by omega) (by omega), u6 y hy, hg2 _ (by omega)]
    | succ m ih =>
      intro k g hk hg1 hg2
      apply wp_X9_move_64_L152
      rw [zj, nn_at (n := k) (by omega), nn_at (n := 24 * jc + j + k) (by omega), nI_1, mw_mwA, mwA_ne _ _ (by decide : (81 : Nat) ≠ 80), mwA_at]
      refine ite_p (nI_ltI' (by omega) (by omega) (by omega)) ⟨vin_n (by omega) (by decide), vin_n (by omega) (by decide), ih (k + 1) _ (by omega) (fun y hy => ?_) (fun y hy => ?_)⟩
      · by_cases e : y = k
        · subst e; rw [upd_at]
        · rw [upd_ne _ _ (by omega)]; exact hg1 y (by omega)
      · rw [upd_ne _ _ (by omega)]; exact hg2 y (by omega)
  have first : ∀ m k f, k + m = n → (∀ y, y < k → f y = M.1 80 (24 * ja + i + y)) → GW xs (d + 7) mX9_move 115 [(0, .ref 64), (1, .int (nI ja)), (2, .int (nI i)), (3, .int (nI jc)), (4, .int (nI j)), (5, .int (nI n)), (6, .int (nI k))] [] (mwA M1 81 f) (QI (fun r2 M2 => nI n = r2 ∧ Inv M2)) := by
    intro m
    induction m with
    | zero =>
      intro k f hk hf
      apply wp_X9_move_64_L115
      refine ite_n (nI_nltI (by omega) (by omega) (by omega)) ?_
      have k0 := second f (fun y hy => hf y (by omega)) n 0 (M.1 80) (by omega) (fun y hy => absurd hy (Nat.not_lt_zero y)) (fun _ _ => rfl)
      rw [show mwA (mwA M1 81 f) 80 (M.1 80) = mwA M1 81 f by rw [← mo 80 (by omega), ← mwA_ne M1 (k := 81) (b := 80) f (by decide)]; exact mwA_self _ 80] at k0
      exact k0
    | succ m ih =>
      intro k f hk hf
      apply wp_X9_move_64_L115
      rw [zi, nn_at (n := k) (by omega), nn_at (n := 24 * ja + i + k) (by omega), nI_1, mw_mwA, mwA_ne _ _ (by decide : (80 : Nat) ≠ 81), mo 80 (by omega)]
      refine ite_p (nI_ltI' (by omega) (by omega) (by omega)) ⟨vin_n (by omega) (by decide), vin_n (by omega) (by decide), ih (k + 1) _ (by omega) (fun y hy => ?_)⟩
      by_cases e : y = k
      · subst e; rw [upd_at]
      · rw [upd_ne _ _ e]; exact hf y (by omega)
  have k0 := first n 0 (M1.1 81) (by omega) (fun y hy => absurd hy (Nat.not_lt_zero y))
  rw [mwA_self] at k0
  exact k0
/-! judge -/
theorem lit3a {a : Int32} (h : ¬ 3 < a) : a < 4 := by
  rw [Int32.lt_iff_toInt_lt] at *
  have : (3 : Int32).toInt = 3 := by decide
  have : (4 : Int32).toInt = 4 := by decide
  omega
theorem lit199a {a : Int32} (h : ¬ 199 < a) : a < 200 := by
  rw [Int32.lt_iff_toInt_lt] at *
  have : (199 : Int32).toInt = 199 := by decide
  have : (200 : Int32).toInt = 200 := by decide
  omega
def jgF (r : Nat → Int32) (s : Nat → Int32) (c y : Nat) : Nat → Nat → Nat
  | 0, i => i
  | m + 1, i => if y + i < 200 ∧ r i = nI (nm s c (y + i)) then jgF r s c y m (i + 1) else i
theorem jgD {xs : gX} {d q : Nat} {M : Mem} {E : Prop} {QQ : Option Value → Mem → Prop} {v1 v2 v3 : Int32} (hq : q < 4) (h : if M.1 (7 + q) 1 = 0 then E else GW xs d mX8_judge 57 [(0, .ref 0), (1, .int v1), (2, .int v2), (3, .int v3), (4, .ref (7 + q)), (5, .int 0)] [] M QQ) : vp_in (nI q) 4 ∧ (nI q = 0 → if M.1 7 1 = 0 then E else GW xs d mX8_judge 57 [(0, .ref 0), (1, .int v1), (2, .int v2), (3, .int v3), (4, .ref 7), (5, .int 0)] [] M QQ) ∧ (nI q = 1 → if M.1 8 1 = 0 then E else GW xs d mX8_judge 57 [(0, .ref 0), (1, .int v1), (2, .int v2), (3, .int v3), (4, .ref 8), (5, .int 0)] [] M QQ) ∧ (nI q = 2 → if M.1 9 1 = 0 then E else GW xs d mX8_judge 57 [(0, .ref 0), (1, .int v1), (2, .int v2), (3, .int v3), (4, .ref 9), (5, .int 0)] [] M QQ) ∧ (nI q = 3 → if M.1 10 1 = 0 then E else GW xs d mX8_judge 57 [(0, .ref 0), (1, .int v1), (2, .int v2), (3, .int v3), (4, .ref 10), (5, .int 0)] [] M QQ) :=
  disp4 hq (fun q => if M.1 (7 + q) 1 = 0 then E else GW xs d mX8_judge 57 [(0, .ref 0), (1, .int v1), (2, .int v2), (3, .int v3), (4, .ref (7 + q)), (5, .int 0)] [] M QQ) h
theorem jgL {xs : gX} {d q : Nat} {M : Mem} {Q : Int32 → Mem → Prop} {v1 v2 v3 v5 : Int32} (hq : q < 4) (h : if v5 < M.1 (7 + q) 2 then (if (v3 + v5) < 200 then (vp_in v5 24 ∧ MI xs d mX6_nameOf [.ref 15, .int v2, .int (v3 + v5)] M (fun r4 M5 => (if (M.1 (11 + q) v5.toNatClampNeg) = r4 then GW xs (d + 1) mX8_judge 57 [(0, .ref 0), (1, .int v1), (2, .int v2), (3, .int v3), (4, .ref (7 + q)), (5, .int (v5 + 1))] [] M5 (QI Q) else Q v5 M5))) else Q v5 M) else Q (M.1 (7 + q) 2) M) : GW xs (d + 1) mX8_judge 57 [(0, .ref 0), (1, .int v1), (2, .int v2), (3, .int v3), (4, .ref (7 + q)), (5, .int v5)] [] M (QI Q) := by
  rcases q4 hq with rfl | rfl | rfl | rfl
  · exact wp_X8_judge_0_L57_r0_7 xs d v1 v2 v3 v5 M Q h
  · exact wp_X8_judge_0_L57_r0_8 xs d v1 v2 v3 v5 M Q h
  · exact wp_X8_judge_0_L57_r0_9 xs d v1 v2 v3 v5 M Q h
  · exact wp_X8_judge_0_L57 xs d v1 v2 v3 v5 M Q h
theorem P_judge {xs : gX} {d : Nat} {M : Mem} (hI : Inv M) (a b c : Int32) : PB xs d mX8_judge mX9_judge [.int a, .int b, .int c] M := by
  have hS := hI.2.2.2.2
  obtain ⟨⟨v1, i1⟩, -⟩ := id hI.1
  have bad : ¬ ((¬ a < 0 ∧ a < 4) ∧ (¬ b < 0 ∧ b < 4) ∧ (¬ c < 0 ∧ c < 200)) → MI xs (d + 7) mX9_judge [.ref 64, .int a, .int b, .int c] (mw M 6 1 (M.1 6 1 + 1)) (fun r2 M2 => ((-1000000000) : Int32) - 1 = r2 ∧ Inv M2) := by
    intro hn
    apply wp_X9_judge_64
    by_cases y1 : b < 0
    · exact ite_p y1 ⟨rfl, Inv_err hI 1⟩
    · by_cases y2 : 3 < b
      · exact ite_n y1 (ite_p y2 ⟨rfl, Inv_err hI 1⟩)
      · by_cases y3 : c < 0
        · exact ite_n y1 (ite_n y2 (ite_p y3 ⟨rfl, Inv_err hI 1⟩))
        · by_cases y4 : 199 < c
          · exact ite_n y1 (ite_n y2 (ite_n y3 (ite_p y4 ⟨rfl, Inv_err hI 1⟩)))
          · by_cases y5 : a < 0
            · exact ite_n y1 (ite_n y2 (ite_n y3 (ite_n y4 (ite_p y5 ⟨rfl, Inv_err hI 1⟩))))
            · by_cases y6 : 3 < a
              · exact ite_n y1 (ite_n y2 (ite_n y3 (ite_n y4 (ite_n y5 (ite_p y6 ⟨rfl, Inv_err hI 1⟩)))))
              · exact absurd ⟨⟨y5, lit3a y6⟩, ⟨y1, lit3a y2⟩, ⟨y3, lit199a y4⟩⟩ hn
  apply wp_X8_judge_0
  rcases arg3 a 4 (by decide) with h | ⟨h0, h1⟩ | ⟨ja, hja, rfl⟩
  · exact ite_p h (bad (fun z => z.1.1 h))
  · exact ite_n h0 (ite_n h1 (bad (fun z => h1 z.1.2)))
  obtain ⟨a1, a2, a3⟩ := ar_in (n := 3) (x := 4) (y := 3) rfl rfl hja (by decide)
  refine ite_n a1 (ite_p a2 ?_)
  rcases arg3 b 4 (by decide) with h | ⟨h0, h1⟩ | ⟨jb, hjb, rfl⟩
  · exact ite_p h (bad (fun z => z.2.1.1 h))
  · exact ite_n h0 (ite_n h1 (bad (fun z => h1 z.2.1.2)))
  obtain ⟨b1, b2, b3⟩ := ar_in (n := 3) (x := 4) (y := 3) rfl rfl hjb (by decide)
  refine ite_n b1 (ite_p b2 ?_)
  rcases arg3 c 200 (by decide) with h | ⟨h0, h1⟩ | ⟨jc, hjc, rfl⟩
  · exact ite_p h (bad (fun z => z.2.2.1 h))
  · exact ite_n h0 (ite_n h1 (bad (fun z => h1 z.2.2.2)))
  obtain ⟨c1, c2, c3⟩ := ar_in (n := 199) (x := 200) (y := 199) rfl rfl hjc (by decide)
  refine ite_n c1 (ite_p c2 (jgD hja ?_))
  obtain ⟨s1, s2, s3, s4, s5, s6⟩ := hS ja hja
  obtain ⟨cn, hcn, ecn⟩ : ∃ cn, cn < 25 ∧ M.1 79 ja = nI cn := ⟨_, (vin_get s4 (by decide)).2, (vin_get s4 (by decide)).1⟩
  rw [s1]
  by_cases z0 : M.1 78 ja = 0
  · refine ite_p z0 ?_
    apply wp_X9_judge_64
    rw [nn_at (n := ja) (by omega)]
    exact ite_n b1 (ite_n b3 (ite_n c1 (ite_n c3 (ite_n a1 (ite_n a3 ⟨vin_n hja (by decide), ite_p z0 ⟨rfl, Inv_err hI 2⟩⟩)))))
  · refine ite_n z0 ?_
    obtain ⟨r, hr⟩ : ∃ r, r = M.1 (11 + ja) := ⟨_, rfl⟩
    have ref : ∀ ans, ans = jgF r (M.1 65) jb jc cn 0 → MI xs (d + 7) mX9_judge [.ref 64, .int (nI ja), .int (nI jb), .int (nI jc)] M (fun r2 M2 => nI ans = r2 ∧ Inv M2) := by
      intro ans hans
      apply wp_X9_judge_64
      rw [nn_at (n := ja) (by omega)]
      refine ite_n b1 (ite_n b3 (ite_n c1 (ite_n c3 (ite_n a1 (ite_n a3 ⟨vin_n hja (by decide), ite_n z0 (namesR hI.1 FR.rfl' (fun M2 h2 => ?_))⟩)))))
      have k : ∀ m i, i + m = cn → jgF r (M.1 65) jb jc m i = ans → GW xs (d + 7) mX9_judge 48 [(0, .ref 64), (1, .int (nI ja)), (2, .int (nI jb)), (3, .int (nI jc)), (4, .int 0), (5, .int (nI i))] [] M2 (QI (fun r2 M2 => nI ans = r2 ∧ Inv M2)) := by
        intro m
        induction m with
        | zero =>
          intro i hi hk
          apply wp_X9_judge_64_L48
          rw [nn_at (n := ja) (by omega), h2.1.2 79 (by decide), ecn]
          refine ⟨vin_n hja (by decide), ite_n (nI_nltI (by omega) (by omega) (by omega)) ⟨?_, Inv_FR hI h2.1⟩⟩
          rw [← hk]; rfl
        | succ m ih =>
          intro i hi hk
          apply wp_X9_judge_64_L48
          rw [nn_at (n := ja) (by omega), h2.1.2 79 (by decide), ecn, nI_add, nI_1]
          refine ⟨vin_n hja (by decide), ite_p (nI_ltI' (by omega) (by omega) (by omega)) ?_⟩
          unfold jgF at hk
          by_cases q : jc + i < 200
          · refine ite_p (nI_ltI' (b := 200) (by omega) (by decide) q) ?_
            rw [s24, nn_at (n := 24 * ja + i) (by omega), show ((200 * nI jb) + nI jc) + nI i = nI (200 * jb + (jc + i)) by simp only [i_lit, nI_mul, nI_add, Nat.add_assoc], nn_at (n := 200 * jb + (jc + i)) (by omega), h2.2 jb (jc + i) hjb q, h2.1.2 80 (by decide), ← s6 i (by omega), ← hr]
            refine ⟨vin_n (by omega) (by decide), vin_n (by omega) (by decide), ?_⟩
            by_cases q2 : r i = nI (nm (M.1 65) jb (jc + i))
            · rw [if_pos ⟨q, q2⟩] at hk
              exact ite_p q2 (ih (i + 1) (by omega) hk)
            · rw [if_neg (fun z => q2 z.2)] at hk
              exact ite_n q2 ⟨by rw [← hk], Inv_FR hI h2.1⟩
          · rw [if_neg (fun z => q z.1)] at hk
            exact ite_n (nI_nltI (b := 200) (by omega) (by decide) (by omega)) ⟨by rw [← hk], Inv_FR hI h2.1⟩
      exact k cn 0 (by omega) hans.symm
    have cls : ∀ m i, i + m = cn → jgF r (M.1 65) jb jc m i = jgF r (M.1 65) jb jc cn 0 → GW xs (d + 7) mX8_judge 57 [(0, .ref 0), (1, .int (nI ja)), (2, .int (nI jb)), (3, .int (nI jc)), (4, .ref (7 + ja)), (5, .int (nI i))] [] M (QI (fun r1 M1 => MI xs (d + 7) mX9_judge [.ref 64, .int (nI ja), .int (nI jb), .int (nI jc)] M1 (fun r2 M2 => r1 = r2 ∧ Inv M2))) := by
      intro m
      induction m with
      | zero =>
        intro i hi hk
        refine jgL hja ?_
        rw [s3, ecn]
        refine ite_n (nI_nltI (by omega) (by omega) (by omega)) (ref cn ?_)
        rw [← hk]; show cn = i; omega
      | succ m ih =>
        intro i hi hk
        refine jgL hja ?_
        rw [s3, ecn, nI_add, nI_1, nn_at (n := i) (by omega), ← hr]
        refine ite_p (nI_ltI' (by omega) (by omega) (by omega)) ?_
        have hk' := hk
        rw [show jgF r (M.1 65) jb jc (m + 1) i = (if jc + i < 200 ∧ r i = nI (nm (M.1 65) jb (jc + i)) then jgF r (M.1 65) jb jc m (i + 1) else i) from rfl] at hk
        by_cases q : jc + i < 200
        · refine ite_p (nI_ltI' (b := 200) (by omega) (by decide) q) ⟨vin_n (by omega) (by decide), nameOf_ok v1 i1 (by omega) (by omega) ?_⟩
          by_cases q2 : r i = nI (nm (M.1 65) jb (jc + i))
          · rw [if_pos ⟨q, q2⟩] at hk
            exact ite_p q2 (ih (i + 1) (by omega) hk)
          · rw [if_neg (fun z => q2 z.2)] at hk
            exact ite_n q2 (ref i hk)
        · rw [if_neg (fun z => q z.1)] at hk
          exact ite_n (nI_nltI (b := 200) (by omega) (by decide) (by omega)) (ref i hk)
    exact cls cn 0 (by omega) rfl
