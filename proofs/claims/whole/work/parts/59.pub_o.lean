/-! ===== day ===== -/
def fnd (s : Nat → Int32) (c a : Nat) : Nat → Nat → Option Nat
  | 0, _ => none
  | m + 1, y => if nm s c y = a then some y else fnd s c a m (y + 1)
theorem fnd_lt {s : Nat → Int32} {c a : Nat} : ∀ m y j, fnd s c a m y = some j → y ≤ j ∧ j < y + m := by
  intro m
  induction m with
  | zero => intro y j h; cases h
  | succ m ih =>
    intro y j h
    unfold fnd at h
    split at h
    · cases h; omega
    · have := ih (y + 1) j h
      omega
theorem fnd_none {s : Nat → Int32} {c a : Nat} : ∀ m y, (∀ z, y ≤ z → z < y + m → nm s c z ≠ a) → fnd s c a m y = none := by
  intro m
  induction m with
  | zero => intro y _; rfl
  | succ m ih =>
    intro y h
    unfold fnd
    rw [if_neg (h y (by omega) (by omega))]
    exact ih (y + 1) (fun z h1 h2 => h z (by omega) (by omega))
theorem fnd_skip {s : Nat → Int32} {c a : Nat} : ∀ k m y, (∀ z, y ≤ z → z < y + k → nm s c z ≠ a) → fnd s c a (k + m) y = fnd s c a m (y + k) := by
  intro k
  induction k with
  | zero => intro m y _; rw [Nat.zero_add, Nat.add_zero]
  | succ k ih =>
    intro m y h
    rw [show k + 1 + m = (k + m) + 1 by omega]
    show (if nm s c y = a then some y else fnd s c a (k + m) (y + 1)) = _
    rw [if_neg (h y (by omega) (by omega)), ih m (y + 1) (fun z h1 h2 => h z (by omega) (by omega)), show y + 1 + k = y + (k + 1) by omega]
theorem yearNamed_ok {xs : gX} {d : Nat} {M M1 : Mem} {Q : Int32 → Mem → Prop} {c a f : Nat} (hI : IWM M) (h : FR scr M M1) (hc : c < 4) (ha : a < 207) (hf : f ≤ 200) (hQ : Q (o2 (fnd (M.1 65) c a (200 - f) f)) M1) : MI xs (d + 1) mX6_yearNamed [.ref 15, .int (nI c), .int (nI a), .int (nI f)] M1 Q := by
  have hV := hI.1.1
  have near : ∀ z, z < 200 → nm (M.1 65) c z = a → a ≤ z + 6 ∧ z ≤ a + 6 := fun z hz e => by
    have := nm_near hV (c := c) (y := z) (by omega)
    omega
  obtain ⟨l, hl⟩ : ∃ l, l = min 199 (a + 6) := ⟨_, rfl⟩
  have key : ∀ m y, y + m = 200 → Q (o2 (fnd (M.1 65) c a m y)) M1 → GW xs (d + 1) mX6_yearNamed 22 [(0, .ref 15), (1, .int (nI c)), (2, .int (nI a)), (3, .int (nI f)), (4, .int (nI l)), (5, .int (nI y))] [] M1 (QI Q) := by
    intro m
    induction m with
    | zero =>
      intro y hy hq
      apply wp_X6_yearNamed_15_L22
      exact ite_p (nI_ltI' (by omega) (by omega) (by omega)) hq
    | succ m ih =>
      intro y hy hq
      apply wp_X6_yearNamed_15_L22
      by_cases q : l < y
      · rw [fnd_none (m + 1) y (fun z h1 h2 e => by have := near z (by omega) e; omega)] at hq
        exact ite_p (nI_ltI' (by omega) (by omega) q) hq
      · have nn := nm_near hV (c := c) (y := y) (by omega)
        refine ite_n (nI_nltI (by omega) (by omega) (by omega)) (nameC hI h (by omega) (by omega) ?_)
        unfold fnd at hq
        by_cases e : nm (M.1 65) c y = a
        · rw [if_pos e] at hq
          exact ite_p (by rw [e]) hq
        · rw [if_neg e] at hq
          rw [nI_1]
          exact ite_n (nI_ne (by omega) (by omega) e) (ih (y + 1) (by omega) hq)
  apply wp_X6_yearNamed_15
  have e1 : gmin 199 (nI a + 6) = nI l := by
    rw [show nI a + 6 = nI (a + 6) from nI_add a 6]
    unfold gmin
    by_cases q : a + 6 < 199
    · rw [if_pos (show nI (a + 6) < (199 : Int32) from nI_ltI' (b := 199) (by omega) (by decide) q), show l = a + 6 by omega]
    · rw [if_neg (show ¬ nI (a + 6) < (199 : Int32) from nI_nltI (b := 199) (by omega) (by decide) (by omega)), show l = 199 by omega]; rfl
  have e2 : gmax (nI f) (nI a - 6) = nI (max f (a - 6)) := by
    unfold gmax
    by_cases q : 6 ≤ a
    · rw [show nI a - 6 = nI (a - 6) from pk_sub (a := a) (b := 6) q]
      by_cases q2 : f < a - 6
      · rw [if_pos (nI_ltI' (by omega) (by omega) q2), Nat.max_eq_right (by omega)]
      · rw [if_neg (nI_nltI (by omega) (by omega) (by omega)), Nat.max_eq_left (by omega)]
    · rw [if_neg, Nat.max_eq_left (by omega)]
      intro g
      have := pk_sneg (a := a) (b := 6) (by omega) (by omega)
      rw [Int32.lt_iff_toInt_lt] at g this
      rw [nI_toInt (by omega)] at g
      have e0 : (0 : Int32).toInt = 0 := by decide
      have e6 : nI a - 6 = nI a - nI 6 := rfl
      rw [e6] at g
      omega
  rw [e1, e2]
  by_cases q : max f (a - 6) ≤ 200
  · refine key (200 - max f (a - 6)) _ (by omega) ?_
    have sk := fnd_skip (s := M.1 65) (c := c) (a := a) (max f (a - 6) - f) (200 - max f (a - 6)) f (fun z h1 h2 e => by have := near z (by omega) e; omega)
    rw [show max f (a - 6) - f + (200 - max f (a - 6)) = 200 - f by omega, show f + (max f (a - 6) - f) = max f (a - 6) by omega] at sk
    rw [← sk]
    exact hQ
  · exfalso
    omega
