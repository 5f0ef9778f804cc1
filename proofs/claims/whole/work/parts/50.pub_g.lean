/-! ===== twins, as, set ===== -/
def und (k w : Nat) : Bool := decide (w = 0) || decide (k = w) || (decide (w = 1) && (decide (k = 4) || decide (k = 5)))
theorem isUnder_ok {xs : gX} {d : Nat} {M : Mem} {Q : Int32 → Mem → Prop} {k w : Nat} (hk : k < 7) (hw : w < 7) (hQ : Q (b2 (und k w)) M) : MI xs d mX9_isUnder [.int (nI k), .int (nI w)] M Q := by
  apply wp_X9_isUnder
  rcases (show k = 0 ∨ k = 1 ∨ k = 2 ∨ k = 3 ∨ k = 4 ∨ k = 5 ∨ k = 6 by omega) with rfl | rfl | rfl | rfl | rfl | rfl | rfl <;> rcases (show w = 0 ∨ w = 1 ∨ w = 2 ∨ w = 3 ∨ w = 4 ∨ w = 5 ∨ w = 6 by omega) with rfl | rfl | rfl | rfl | rfl | rfl | rfl <;> repeat' (first | exact hQ | refine ite_p (by decide) ?_ | refine ite_n (by decide) ?_)
theorem isOf_ok {xs : gX} {d : Nat} {M : Mem} {Q : Int32 → Mem → Prop} {k w t : Nat} (hk : k < 7) (hw : w < 7) (hf : ∀ Q1 : Int32 → Mem → Prop, Q1 (nI k) M → MI xs (d + 1) mX3_fact [.ref 20, .int (nI t), .int (nI 0)] M Q1) (hQ : Q (b2 (und k w)) M) : MI xs (d + 2) mX3_isOf [.ref 20, .int (nI t), .int (nI w)] M Q := by
  have t0 : tbF 2000 (nI 0).toNatClampNeg = -1 := by decide
  have t1 : tbF 2000 (nI 1).toNatClampNeg = nI 0 := by decide
  have t2 : tbF 2000 (nI 2).toNatClampNeg = nI 0 := by decide
  have t3 : tbF 2000 (nI 3).toNatClampNeg = nI 0 := by decide
  have t4 : tbF 2000 (nI 4).toNatClampNeg = nI 1 := by decide
  have t5 : tbF 2000 (nI 5).toNatClampNeg = nI 1 := by decide
  have t6 : tbF 2000 (nI 6).toNatClampNeg = nI 0 := by decide
  have l0 : ∀ i, i < 6 → Q (b2 (decide (w = 0))) M → GW xs (d + 2) mX3_isOf 10 [(0, .ref 20), (1, .int (nI t)), (2, .int (nI w)), (3, .int (nI 0)), (4, .int (nI i))] [] M (QI Q) := by
    intro i hi hq
    apply wp_X3_isOf_20_L10
    refine ite_p (nI_ltI' (b := 7) (by omega) (by decide) (by omega)) (ite_n (by decide) (ite_p (by decide) ?_))
    by_cases q : w = 0
    · subst q
      exact ite_p rfl hq
    · refine ite_n (nI_ne (by omega) (by omega) (by omega)) ⟨vin_n (by omega) (by omega), ?_⟩
      rw [t0, nI_1]
      apply wp_X3_isOf_20_L10
      refine ite_p (nI_ltI' (b := 7) (by omega) (by decide) (by omega)) (ite_p (by decide) ?_)
      rw [decide_eq_false q] at hq
      exact hq
  have l1 : ∀ h i, 0 < h → h < 7 → tbF 2000 (nI h).toNatClampNeg = nI 0 → i < 5 → Q (b2 (decide (w = 0) || decide (h = w))) M → GW xs (d + 2) mX3_isOf 10 [(0, .ref 20), (1, .int (nI t)), (2, .int (nI w)), (3, .int (nI h)), (4, .int (nI i))] [] M (QI Q) := by
    intro h i h0 h7 ht hi hq
    apply wp_X3_isOf_20_L10
    refine ite_p (nI_ltI' (b := 7) (by omega) (by decide) (by omega)) (ite_n (nI_lt0 (by omega)) (ite_p (nI_ltI' (b := 7) (by omega) (by decide) h7) ?_))
    by_cases q : h = w
    · rw [decide_eq_true q, Bool.or_true] at hq
      exact ite_p (by rw [q]) hq
    · rw [decide_eq_false q, Bool.or_false] at hq
      refine ite_n (nI_ne (by omega) (by omega) q) ⟨vin_n (by omega) (by omega), ?_⟩
      rw [ht, nI_1]
      exact l0 (i + 1) (by omega) hq
  have l2 : ∀ h i, 0 < h → h < 7 → tbF 2000 (nI h).toNatClampNeg = nI 1 → i < 4 → Q (b2 (decide (w = 0) || decide (h = w) || decide (1 = w))) M → GW xs (d + 2) mX3_isOf 10 [(0, .ref 20), (1, .int (nI t)), (2, .int (nI w)), (3, .int (nI h)), (4, .int (nI i))] [] M (QI Q) := by
    intro h i h0 h7 ht hi hq
    apply wp_X3_isOf_20_L10
    refine ite_p (nI_ltI' (b := 7) (by omega) (by decide) (by omega)) (ite_n (nI_lt0 (by omega)) (ite_p (nI_ltI' (b := 7) (by omega) (by decide) h7) ?_))
    by_cases q : h = w
    · rw [decide_eq_true q, Bool.or_true, Bool.true_or] at hq
      exact ite_p (by rw [q]) hq
    · rw [decide_eq_false q, Bool.or_false] at hq
      refine ite_n (nI_ne (by omega) (by omega) q) ⟨vin_n (by omega) (by omega), ?_⟩
      rw [ht, nI_1]
      exact l1 1 (i + 1) (by omega) (by omega) t1 (by omega) hq
  apply wp_X3_isOf_20
  refine hf _ ?_
  unfold und at hQ
  rcases (show k = 0 ∨ k = 1 ∨ k = 2 ∨ k = 3 ∨ k = 4 ∨ k = 5 ∨ k = 6 by omega) with rfl | rfl | rfl | rfl | rfl | rfl | rfl
  · refine l0 0 (by omega) ?_
    rw [show (decide (w = 0) || decide (0 = w) || (decide (w = 1) && (decide (0 = 4) || decide (0 = 5)))) = decide (w = 0) by simp [eq_comm]] at hQ
    exact hQ
  · refine l1 1 0 (by omega) (by omega) t1 (by omega) ?_
    rw [show (decide (w = 0) || decide (1 = w) || (decide (w = 1) && (decide (1 = 4) || decide (1 = 5)))) = (decide (w = 0) || decide (1 = w)) by simp] at hQ
    exact hQ
  · refine l1 2 0 (by omega) (by omega) t2 (by omega) ?_
    rw [show (decide (w = 0) || decide (2 = w) || (decide (w = 1) && (decide (2 = 4) || decide (2 = 5)))) = (decide (w = 0) || decide (2 = w)) by simp] at hQ
    exact hQ
  · refine l1 3 0 (by omega) (by omega) t3 (by omega) ?_
    rw [show (decide (w = 0) || decide (3 = w) || (decide (w = 1) && (decide (3 = 4) || decide (3 = 5)))) = (decide (w = 0) || decide (3 = w)) by simp] at hQ
    exact hQ
  · refine l2 4 0 (by omega) (by omega) t4 (by omega) ?_
    rw [show (decide (w = 0) || decide (4 = w) || (decide (w = 1) && (decide (4 = 4) || decide (4 = 5)))) = (decide (w = 0) || decide (4 = w) || decide (1 = w)) by simp [eq_comm]] at hQ
    exact hQ
  · refine l2 5 0 (by omega) (by omega) t5 (by omega) ?_
    rw [show (decide (w = 0) || decide (5 = w) || (decide (w = 1) && (decide (5 = 4) || decide (5 = 5)))) = (decide (w = 0) || decide (5 = w) || decide (1 = w)) by simp [eq_comm]] at hQ
    exact hQ
  · refine l1 6 0 (by omega) (by omega) t6 (by omega) ?_
    rw [show (decide (w = 0) || decide (6 = w) || (decide (w = 1) && (decide (6 = 4) || decide (6 = 5)))) = (decide (w = 0) || decide (6 = w)) by simp] at hQ
    exact hQ
theorem isOfC {xs : gX} {d : Nat} {M M1 : Mem} {Q : Int32 → Mem → Prop} {t w : Nat} (hI : IWM M) (h : FR scr M M1) (ht : t < N (M.1 65) 1) (hw : w < 7) (hQ : Q (b2 (und (tx (M.1 65) 0 t) w)) M1) : MI xs (d + 2) mX3_isOf [.ref 20, .int (nI t), .int (nI w)] M1 Q :=
  isOf_ok (txI hI ht).2.1 hw (fun Q1 h1 => factC (w := 0) hI h ht (by omega) h1) hQ
theorem P_as {xs : gX} {d : Nat} {M : Mem} (hI : Inv M) (a b : Int32) : PB xs d mX8_as mX9_as [.int a, .int b] M := by
  obtain ⟨⟨v1, i1⟩, ⟨v2, i2⟩, ⟨v3, i3⟩, ⟨v4, i4⟩, i5⟩ := id hI.1
  have hT0 : M.1 65 1 = nI (N (M.1 65) 1) := v2.1
  have hT1 : M.1 20 1 = nI (N (M.1 65) 1) := i2.1.trans v2.1
  have hTn := v2.2.1
  have hP0 : M.1 65 2 = nI (N (M.1 65) 2) := v3.1
  have hP1 : M.1 22 2 = nI (N (M.1 65) 2) := i3.1.trans v3.1
  have hPn := v3.2.1
  have hS0 : M.1 65 0 = nI (ns (M.1 65)) := v1.1
  have hS1 : M.1 15 4 = nI (ns (M.1 65)) := i1.1.trans v1.1
  have hSn := v1.2.1
  rcases arg3 a (N (M.1 65) 1) (by omega) with h | ⟨h0, h1⟩ | ⟨ja, hja, rfl⟩
  · apply wp_X8_as_0
    refine (ite_p h ?_)
    apply wp_X9_as_64
    exact (ite_p h ⟨rfl, Inv_err hI 1⟩)
  · apply wp_X8_as_0
    refine (ite_n h0 (ite_n (cnt_o hT1 h1) ?_))
    apply wp_X9_as_64
    exact (ite_n h0 (ite_p (cnt_out hT0 (by omega) h0 h1) ⟨rfl, Inv_err hI 1⟩))
  obtain ⟨a1, a2, a3⟩ := cnt_in hT1 hT0 (by omega) hja
  rcases arg3 b 7 (by decide) with h | ⟨h0, h1⟩ | ⟨jb, hjb, rfl⟩
  · apply wp_X8_as_0
    refine (ite_n a1 (ite_p a2 (ite_p h ?_)))
    apply wp_X9_as_64
    exact (ite_n a1 (ite_n a3 (ite_p h ⟨rfl, Inv_err hI 1⟩)))
  · apply wp_X8_as_0
    refine (ite_n a1 (ite_p a2 (ite_n h0 (ite_n h1 ?_))))
    apply wp_X9_as_64
    exact (ite_n a1 (ite_n a3 (ite_n h0 (ite_p (ar_out (n := 6) rfl rfl (by decide) h1) ⟨rfl, Inv_err hI 1⟩))))
  obtain ⟨b1, b2, b3⟩ := ar_in (n := 6) (x := 7) (y := 6) rfl rfl hjb (by decide)
  obtain ⟨g0, g1, g2, g3, g4, g5⟩ := txI hI.1 hja
  have rf : ∀ (M1 : Mem) (Q : Int32 → Mem → Prop), M1.1 65 = M.1 65 → (if und (tx (M.1 65) 0 ja) jb = true then Q (nI (tx (M.1 65) 3 ja)) M1 else Q (((-1000000000) : Int32) - 5) (mw M1 67 5 ((M1.1 67 5) + 1))) → MI xs (d + 7) mX9_as [.ref 64, .int (nI ja), .int (nI jb)] M1 Q := by
    intro M1 Q e h
    rw [← e] at a3
    apply wp_X9_as_64
    refine (ite_n a1 (ite_n a3 (ite_n b1 (ite_n b3 ?_))))
    rw [e, show (28 + (4 * nI ja)) + 0 = nI (28 + 4 * ja + 0) from zT ja 0, show (28 + (4 * nI ja)) + 3 = nI (28 + 4 * ja + 3) from zT ja 3, nn_at (n := 28 + 4 * ja + 0) (by omega), nn_at (n := 28 + 4 * ja + 3) (by omega), g0 0 (by omega)]
    refine ⟨vin_n (by omega) (by decide), isUnder_ok g1 hjb ?_⟩
    cases hu : und (tx (M.1 65) 0 ja) jb
    · rw [hu] at h
      exact ite_p rfl h
    · rw [hu] at h
      refine ite_n (by decide) ⟨vin_n (by omega) (by decide), ?_⟩
      rw [e, g0 3 (by omega)]
      exact h
  apply wp_X8_as_0
  refine (ite_n a1 (ite_p a2 (ite_n b1 (ite_p b2 ?_))))
  refine isOfC hI.1 FR.rfl' hja hjb ?_
  cases hu : und (tx (M.1 65) 0 ja) jb
  · refine ite_p rfl (rf _ _ (mw_ne _ _ _ (by decide)) ?_)
    rw [hu]
    exact ⟨rfl, Inv_err hI 5⟩
  · refine ite_n (by decide) (factC (w := 3) hI.1 FR.rfl' hja (by omega) (rf _ _ rfl ?_))
    rw [hu]
    exact ⟨rfl, hI⟩
/-! pairs counted in two orders -/
def rowS (f : Nat → Nat → Nat) (a : Nat) : Nat → Nat
  | 0 => 0
  | n + 1 => rowS f a n + f a n
def cR (f : Nat → Nat → Nat) : Nat → Nat
  | 0 => 0
  | n + 1 => cR f n + rowS f n n
def segS (f : Nat → Nat → Nat) (i : Nat) : Nat → Nat
  | 0 => 0
  | n + 1 => segS f i n + (if i < n then f i n else 0)
def cC (f : Nat → Nat → Nat) (n : Nat) : Nat → Nat
  | 0 => 0
  | k + 1 => cC f n k + segS f k n
theorem segS_0 (f : Nat → Nat → Nat) {i : Nat} : ∀ n, n ≤ i + 1 → segS f i n = 0 := by
  intro n
  induction n with
  | zero => intro _; rfl
  | succ n ih =>
    intro h
    show segS f i n + _ = 0
    rw [ih (by omega), if_neg (by omega)]
theorem cC_cR {f : Nat → Nat → Nat} (hs : ∀ a b, f a b = f b a) : ∀ n, cC f n n = cR f n := by
  intro n
  induction n with
  | zero => rfl
  | succ n ih =>
    show cC f (n + 1) n + segS f n (n + 1) = cR f n + rowS f n n
    rw [segS_0 f _ (Nat.le_refl _), ← ih]
    have h : ∀ k, k ≤ n → cC f (n + 1) k = cC f n k + rowS f n k := by
      intro k
      induction k with
      | zero => intro _; rfl
      | succ k ihk =>
        intro hk
        show cC f (n + 1) k + (segS f k n + (if k < n then f k n else 0)) = cC f n k + segS f k n + (rowS f n k + f n k)
        rw [ihk (by omega), if_pos (by omega), hs k n]
        omega
    rw [h n (Nat.le_refl _)]
    omega
def twB (s : Nat → Int32) (i j : Nat) : Bool := und (tx s 0 i) 1 && und (tx s 0 j) 1 && decide (tx s 2 i = tx s 2 j) && !decide (tx s 3 i = tx s 3 j) && decide (tx s 3 i % 365 = tx s 3 j % 365) && decide (nm s (tx s 2 i) (tx s 3 i / 365) = nm s (tx s 2 i) (tx s 3 j / 365))
theorem twB_sym (s : Nat → Int32) (i j : Nat) : twB s i j = twB s j i := by
  rw [Bool.eq_iff_iff]
  unfold twB
  simp only [Bool.and_eq_true, decide_eq_true_eq, Bool.not_eq_true', decide_eq_false_iff_not]
  constructor
  · rintro ⟨⟨⟨⟨⟨h1, h2⟩, h3⟩, h4⟩, h5⟩, h6⟩
    refine ⟨⟨⟨⟨⟨h2, h1⟩, h3.symm⟩, fun e => h4 e.symm⟩, h5.symm⟩, ?_⟩
    rw [← h3]; exact h6.symm
  · rintro ⟨⟨⟨⟨⟨h1, h2⟩, h3⟩, h4⟩, h5⟩, h6⟩
    refine ⟨⟨⟨⟨⟨h2, h1⟩, h3.symm⟩, fun e => h4 e.symm⟩, h5.symm⟩, ?_⟩
    rw [← h3]; exact h6.symm
def twN (s : Nat → Int32) (i j : Nat) : Nat := if twB s i j = true then 1 else 0
