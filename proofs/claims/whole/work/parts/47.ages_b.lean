/-! ===== ages, both sides ===== -/
/-- how many sales a county has part in -/
def pts (s : Nat → Int32) (c : Nat) : Nat → Nat
  | 0 => 0
  | n + 1 => pts s c n + (if sf s n = c ∨ st s n = c then 1 else 0)
theorem pts_le (s : Nat → Int32) (c : Nat) : ∀ n, pts s c n ≤ n := by
  intro n
  induction n with
  | zero => exact Nat.le_refl _
  | succ n ih =>
    show pts s c n + _ ≤ _
    split <;> omega
theorem partsOf_ok {xs : gX} {d : Nat} {M : Mem} {Q : Int32 → Mem → Prop} {s : Nat → Int32} {c : Nat} (hV : VS s) (hS : SKY M 15 s) (hc : c < 1000) (hQ : Q (nI (pts s c (ns s))) M) : MI xs (d + 1) mX6_partsOf [.ref 15, .int (nI c)] M Q := by
  have hn6 := hV.2.1
  have key : ∀ m i, i + m = ns s → GW xs (d + 1) mX6_partsOf 4 [(0, .ref 15), (1, .int (nI c)), (2, .int (nI (pts s c i))), (3, .int (nI i))] [] M (QI Q) := by
    intro m
    induction m with
    | zero =>
      intro i hi
      obtain rfl : i = ns s := by omega
      apply wp_X6_partsOf_15_L4
      rw [hS.1, hV.1]
      exact ite_n (nI_nltI (by omega) (by omega) (by omega)) hQ
    | succ m ih =>
      intro i hi
      have hin : i < ns s := by omega
      obtain ⟨va, vf, vt⟩ := SKY.at hV hS hin
      obtain ⟨-, g1, g2, g3, g4, g5⟩ := hV.2.2.1 i hin
      have ih := ih (i + 1) (by omega)
      apply wp_X6_partsOf_15_L4
      rw [hS.1, hV.1]
      refine ite_p (nI_ltI' (by omega) (by omega) (by omega)) ⟨vin_n (by omega) (by omega), ?_⟩
      rw [nn_at (by omega), vf, vt, nI_1, nI_1]
      rw [show pts s c (i + 1) = pts s c i + (if sf s i = c ∨ st s i = c then 1 else 0) from rfl] at ih
      by_cases q1 : sf s i = c
      · rw [if_pos (.inl q1)] at ih
        exact ite_p (by rw [q1]) ih
      · refine ite_n (nI_ne (by omega) (by omega) q1) ?_
        by_cases q2 : st s i = c
        · rw [if_pos (.inr q2)] at ih
          exact ite_p (by rw [q2]) ih
        · rw [if_neg (by rintro (h | h) <;> contradiction), Nat.add_zero] at ih
          exact ite_n (nI_ne (by omega) (by omega) q2) ih
  apply wp_X6_partsOf_15
  exact key (ns s) 0 (by omega)
theorem salesOf_ok {xs : gX} {d : Nat} {M : Mem} {Q : Int32 → Mem → Prop} {s : Nat → Int32} {c : Nat} (hV : VS s) (hs : M.1 65 = s) (hc : c < 1000) (hQ : Q (nI (pts s c (ns s))) M) : MI xs (d + 1) mX9_salesOf [.ref 64, .int (nI c)] M Q := by
  have hn6 := hV.2.1
  have key : ∀ m i, i + m = ns s → GW xs (d + 1) mX9_salesOf 4 [(0, .ref 64), (1, .int (nI c)), (2, .int (nI (pts s c i))), (3, .int (nI i))] [] M (QI Q) := by
    intro m
    induction m with
    | zero =>
      intro i hi
      obtain rfl : i = ns s := by omega
      apply wp_X9_salesOf_64_L4
      rw [hs, hV.1]
      exact ite_n (nI_nltI (by omega) (by omega) (by omega)) hQ
    | succ m ih =>
      intro i hi
      have hin : i < ns s := by omega
      obtain ⟨g0, g1, g2, g3, g4, g5⟩ := hV.2.2.1 i hin
      have ih := ih (i + 1) (by omega)
      apply wp_X9_salesOf_64_L4
      have z1 : (10 + 3 * nI i) + 1 = nI (10 + 3 * i + 1) := by simp only [i_lit, nI_mul, nI_add]
      have z2 : (10 + 3 * nI i) + 2 = nI (10 + 3 * i + 2) := by simp only [i_lit, nI_mul, nI_add]
      have f1 : s (10 + 3 * i + 1) = nI (sf s i) := g0 1 (by omega)
      have f2 : s (10 + 3 * i + 2) = nI (st s i) := g0 2 (by omega)
      rw [hs, hV.1, z1, z2, nn_at (n := 10 + 3 * i + 1) (by omega), nn_at (n := 10 + 3 * i + 2) (by omega), f1, f2, Int32.add_zero]
      simp only [nI_1]
      rw [show pts s c (i + 1) = pts s c i + (if sf s i = c ∨ st s i = c then 1 else 0) from rfl] at ih
      refine ite_p (nI_ltI' (by omega) (by omega) (by omega)) ⟨vin_n (by omega) (by decide), ?_⟩
      by_cases q1 : sf s i = c
      · rw [if_pos (.inl q1)] at ih
        exact ite_p (by rw [q1]) ih
      · refine ite_n (nI_ne (by omega) (by omega) q1) ⟨vin_n (by omega) (by decide), ?_⟩
        by_cases q2 : st s i = c
        · rw [if_pos (.inr q2)] at ih
          exact ite_p (by rw [q2]) ih
        · rw [if_neg (by rintro (h | h) <;> contradiction), Nat.add_zero] at ih
          exact ite_n (nI_ne (by omega) (by omega) q2) ih
  apply wp_X9_salesOf_64
  exact key (ns s) 0 (by omega)
/-- the reference's names are the names -/
def NMS (M : Mem) (s : Nat → Int32) : Prop := ∀ c y, c < 4 → y < 200 → M.1 68 (200 * c + y) = nI (nm s c y)
theorem turnsOfName_ok {xs : gX} {d : Nat} {M : Mem} {Q : Int32 → Mem → Prop} {s : Nat → Int32} {c a m : Nat} (hV : VS s) (hS : SKY M 15 s) (hc : c < 4) (hy : a + m < 200) (hQ : Q (nI (unl s c a m)) M) : MI xs (d + 1) mX6_turnsOfName [.ref 15, .int (nI c), .int (nI a), .int (nI (a + m))] M Q := by
  have hn6 := hV.2.1
  have e := unl_tc hV (c := c) (a := a) m (by omega)
  have n1 := nm_near hV (c := c) (y := a) (by omega)
  have n2 := nm_near hV (c := c) (y := a + m) (by omega)
  have le := fun n => tc_le s c (nm s c a) (nm s c (a + m)) n
  have key : ∀ k i, i + k = ns s → tc s c (nm s c a) (nm s c (a + m)) i ≤ tc s c (nm s c a) (nm s c (a + m)) (ns s) → GW xs (d + 1) mX6_turnsOfName 26 [(0, .ref 15), (1, .int (nI c)), (2, .int (nI a)), (3, .int (nI (a + m))), (4, .int (nI (nm s c a))), (5, .int (nI (nm s c (a + m)))), (6, .int (nI (nm s c (a + m)) - nI (nm s c a + tc s c (nm s c a) (nm s c (a + m)) i))), (7, .int (nI i))] [] M (QI Q) := by
    intro k
    induction k with
    | zero =>
      intro i hi _
      obtain rfl : i = ns s := by omega
      apply wp_X6_turnsOfName_15_L26
      rw [hS.1, hV.1]
      refine ite_n (nI_nltI (by omega) (by omega) (by omega)) ?_
      rw [pk_sub (by omega), show nm s c (a + m) - (nm s c a + tc s c (nm s c a) (nm s c (a + m)) (ns s)) = unl s c a m by omega]
      exact hQ
    | succ k ih =>
      intro i hi hle
      have hin : i < ns s := by omega
      obtain ⟨va, vf, vt⟩ := SKY.at hV hS hin
      obtain ⟨-, g1, g2, g3, g4, g5⟩ := hV.2.2.1 i hin
      have mono : ∀ j, i + 1 + j ≤ ns s → tc s c (nm s c a) (nm s c (a + m)) (i + 1) ≤ tc s c (nm s c a) (nm s c (a + m)) (i + 1 + j) := by
        intro j
        induction j with
        | zero => intro _; exact Nat.le_refl _
        | succ j ihj => intro hj; exact Nat.le_trans (ihj (by omega)) (Nat.le_add_right _ _)
      have ih := ih (i + 1) (by omega) (by have := mono (ns s - (i + 1)) (by omega); rw [show i + 1 + (ns s - (i + 1)) = ns s by omega] at this; exact this)
      apply wp_X6_turnsOfName_15_L26
      rw [hS.1, hV.1]
      refine ite_p (nI_ltI' (by omega) (by omega) (by omega)) ⟨vin_n (by omega) (by omega), ?_⟩
      rw [nn_at (n := i) (by omega), va, vf]
      simp only [nI_1]
      rw [show tc s c (nm s c a) (nm s c (a + m)) (i + 1) = tc s c (nm s c a) (nm s c (a + m)) i + (if sf s i = c ∧ nm s c a < sa s i ∧ sa s i < nm s c (a + m) then 1 else 0) from rfl] at ih
      by_cases q1 : sf s i = c
      · refine ite_p (by rw [q1]) ?_
        by_cases q2 : nm s c a < sa s i
        · refine ite_p (nI_ltI' (by omega) (by omega) q2) ?_
          by_cases q3 : sa s i < nm s c (a + m)
          · refine ite_p (nI_ltI' (by omega) (by omega) q3) ?_
            rw [if_pos ⟨q1, q2, q3⟩, ← Nat.add_assoc, ← nI_1] at ih
            rw [show nI (nm s c (a + m)) - nI (nm s c a + tc s c (nm s c a) (nm s c (a + m)) i) + -1 = nI (nm s c (a + m)) - (nI (nm s c a + tc s c (nm s c a) (nm s c (a + m)) i) + 1) from ?_]
            · exact ih
            · rw [Int32.sub_eq_add_neg, Int32.sub_eq_add_neg, Int32.neg_add, Int32.sub_eq_add_neg, Int32.add_assoc]
          · rw [if_neg (fun h => q3 h.2.2), Nat.add_zero] at ih
            exact ite_n (nI_nltI (by omega) (by omega) (by omega)) ih
        · rw [if_neg (fun h => q2 h.2.1), Nat.add_zero] at ih
          exact ite_n (nI_nltI (by omega) (by omega) (by omega)) ih
      · rw [if_neg (fun h => q1 h.1), Nat.add_zero] at ih
        exact ite_n (nI_ne (by omega) (by omega) q1) ih
  apply wp_X6_turnsOfName_15
  refine nameOf_ok hV hS (by omega) (by omega) (nameOf_ok hV hS (by omega) (by omega) ?_)
  exact key (ns s) 0 (by omega) (Nat.zero_le _)
theorem unlike_ok {xs : gX} {d : Nat} {M : Mem} {Q : Int32 → Mem → Prop} {s : Nat → Int32} {c a m : Nat} (hV : VS s) (hN : NMS M s) (hc : c < 4) (hy : a + m < 200) (hQ : Q (nI (unl s c a m)) M) : MI xs d mX9_unlike [.ref 64, .int (nI c), .int (nI a), .int (nI (a + m))] M Q := by
  have key : ∀ k i, i + k = m → GW xs d mX9_unlike 8 [(0, .ref 64), (1, .int (nI c)), (2, .int (nI a)), (3, .int (nI (a + m))), (4, .int (nI (unl s c a i))), (5, .int (nI (a + i + 1)))] [] M (QI Q) := by
    intro k
    induction k with
    | zero =>
      intro i hi
      obtain rfl : i = m := by omega
      apply wp_X9_unlike_64_L8
      exact ite_p (nI_ltI' (by omega) (by omega) (by omega)) hQ
    | succ k ih =>
      intro i hi
      have ih := ih (i + 1) (by omega)
      have n1 := nm_near hV (c := c) (y := a + i) (by omega)
      have n2 := nm_near hV (c := c) (y := a + i + 1) (by omega)
      apply wp_X9_unlike_64_L8
      have z1 : (200 * nI c) + nI (a + i + 1) = nI (200 * c + (a + i + 1)) := by simp only [i_lit, nI_mul, nI_add]
      have z2 : nI (200 * c + (a + i + 1)) - 1 = nI (200 * c + (a + i)) := nI_pred _
      rw [z1, z2, nn_at (n := 200 * c + (a + i + 1)) (by omega), nn_at (n := 200 * c + (a + i)) (by omega), hN c _ hc (by omega), hN c _ hc (by omega), Int32.add_zero]
      simp only [nI_1]
      refine ite_n (nI_nltI (by omega) (by omega) (by omega)) ⟨vin_n (by omega) (by decide), vin_n (by omega) (by decide), ?_⟩
      rw [show unl s c a (i + 1) = unl s c a i + (if nm s c (a + i + 1) = nm s c (a + i) then 0 else 1) from rfl] at ih
      by_cases q : nm s c (a + i + 1) = nm s c (a + i)
      · rw [if_pos q] at ih
        exact ite_p (by rw [q]) ih
      · rw [if_neg q] at ih
        exact ite_n (nI_ne (by omega) (by omega) q) ih
  apply wp_X9_unlike_64
  rw [nI_1]
  exact key m 0 (by omega)
