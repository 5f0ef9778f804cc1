/-! ===== unlike names of years ===== -/
def c1 (s : Nat → Int32) (c k : Nat) : Nat → Nat
  | 0 => 0
  | n + 1 => c1 s c k n + (if sf s n = c ∧ sa s n = k then 1 else 0)
def tc (s : Nat → Int32) (c l h : Nat) : Nat → Nat
  | 0 => 0
  | n + 1 => tc s c l h n + (if sf s n = c ∧ l < sa s n ∧ sa s n < h then 1 else 0)
theorem tc_le (s : Nat → Int32) (c l h : Nat) : ∀ n, tc s c l h n ≤ n := by
  intro n
  induction n with
  | zero => exact Nat.le_refl _
  | succ n ih =>
    show tc s c l h n + _ ≤ _
    split <;> omega
theorem tc_empty {s : Nat → Int32} {c l h : Nat} (hl : h ≤ l + 1) : ∀ n, tc s c l h n = 0 := by
  intro n
  induction n with
  | zero => rfl
  | succ n ih =>
    show tc s c l h n + _ = 0
    rw [ih, if_neg (by omega)]
theorem tc_step {s : Nat → Int32} {c l k : Nat} : ∀ n, tc s c l (k + 1) n = tc s c l k n + (if l < k then c1 s c k n else 0) := by
  intro n
  induction n with
  | zero => show 0 = 0 + (if _ then 0 else 0); split <;> rfl
  | succ n ih =>
    show tc s c l (k + 1) n + (if sf s n = c ∧ l < sa s n ∧ sa s n < k + 1 then 1 else 0) = tc s c l k n + (if sf s n = c ∧ l < sa s n ∧ sa s n < k then 1 else 0) + (if l < k then c1 s c k n + (if sf s n = c ∧ sa s n = k then 1 else 0) else 0)
    rw [ih]
    by_cases q1 : sf s n = c <;> by_cases q2 : l < k <;> by_cases q3 : sa s n = k <;> by_cases q4 : sa s n < k <;> by_cases q5 : l < sa s n <;> simp only [q1, q2, q3, q4, q5, true_and, and_true, false_and, and_false, if_true, if_false] <;> (try rw [if_pos (by omega)]) <;> (try rw [if_neg (by omega)]) <;> omega
theorem c1_is {s : Nat → Int32} {c k : Nat} (hV : VS s) : ∀ n, n ≤ ns s → c1 s c k n = (if hN s 1 c k n = true then 1 else 0) := by
  intro n
  induction n with
  | zero => intro _; rfl
  | succ n ih =>
    intro hn
    show c1 s c k n + (if sf s n = c ∧ sa s n = k then 1 else 0) = _
    rw [ih (by omega)]
    by_cases q : sf s n = c ∧ sa s n = k
    · have e : hN s 1 c k n = false := by
        cases hb : hN s 1 c k n
        · rfl
        · obtain ⟨j, hj, g1, g2⟩ := hN_iff.mp hb
          have := (VS_apart hV (i := j) (j := n) (by omega) (by omega) (by omega) (by rw [q.2]; exact g1)).1
          exact absurd (g2.trans q.1.symm) this
      have e2 : hN s 1 c k (n + 1) = true := hN_iff.mpr ⟨n, by omega, q.2, q.1⟩
      rw [e, e2, if_pos q]
      simp
    · rw [if_neg q]
      have e2 : hN s 1 c k (n + 1) = hN s 1 c k n := by
        show (hN s 1 c k n || (decide (sa s n = k) && decide (sf s n = c))) = _
        have : (decide (sa s n = k) && decide (sf s n = c)) = false := by
          simp only [Bool.and_eq_false_iff, decide_eq_false_iff_not]
          by_cases q1 : sf s n = c
          · exact .inl (fun g => q ⟨q1, g⟩)
          · exact .inr q1
        rw [this, Bool.or_false]
      rw [e2, Nat.add_zero]
/-- the years a, a + 1 .. a + m: how often the name is another one -/
def unl (s : Nat → Int32) (c a : Nat) : Nat → Nat
  | 0 => 0
  | m + 1 => unl s c a m + (if nm s c (a + m + 1) = nm s c (a + m) then 0 else 1)
theorem unl_le (s : Nat → Int32) (c a : Nat) : ∀ m, unl s c a m ≤ m := by
  intro m
  induction m with
  | zero => exact Nat.le_refl _
  | succ m ih =>
    show unl s c a m + _ ≤ _
    split <;> omega
theorem nm_up {s : Nat → Int32} (hV : VS s) {c y : Nat} (hy : y < 250) : nm s c y ≤ nm s c (y + 1) := by
  have h1 := nm_spec hV (c := c) (y := y) (by omega)
  have h2 := nm_spec hV (c := c) (y := y + 1) (by omega)
  by_cases q : nm s c y ≤ nm s c (y + 1)
  · exact q
  · have := cum_mono (so s c) (bo s c) (a := nm s c (y + 1) + 1) (b := nm s c y) (by omega)
    have := h1.1
    have := h2.2
    omega
/-- the names between two years' names are sold -/
theorem nm_gap {s : Nat → Int32} (hV : VS s) {c y k : Nat} (hy : y < 250) (h1 : nm s c y < k) (h2 : k < nm s c (y + 1)) : so s c k = true := by
  have g1 := nm_spec hV (c := c) (y := y) (by omega)
  have g2 := nm_spec hV (c := c) (y := y + 1) (by omega)
  have e1 := cum_mono (so s c) (bo s c) (a := nm s c y + 1) (b := k) (by omega)
  have e2 := cum_mono (so s c) (bo s c) (a := k + 1) (b := nm s c (y + 1)) (by omega)
  have a1 := g1.2
  have a2 := g2.1
  have e3 : cum (so s c) (bo s c) (k + 1) = cum (so s c) (bo s c) k + (if so s c k = true then 0 else if bo s c k = true then 2 else 1) := rfl
  by_cases q : so s c k = true
  · exact q
  · rw [if_neg q] at e3
    split at e3 <;> omega
theorem nm_unsold {s : Nat → Int32} (hV : VS s) {c y : Nat} (hy : y < 300) : ¬ so s c (nm s c y) = true := by
  have g := nm_spec hV (c := c) (y := y) (by omega)
  intro q
  have e3 : cum (so s c) (bo s c) (nm s c y + 1) = cum (so s c) (bo s c) (nm s c y) + (if so s c (nm s c y) = true then 0 else if bo s c (nm s c y) = true then 2 else 1) := rfl
  rw [if_pos q] at e3
  have := g.1
  have := g.2
  omega
theorem unl_tc {s : Nat → Int32} (hV : VS s) {c a : Nat} : ∀ m, a + m < 250 → unl s c a m + tc s c (nm s c a) (nm s c (a + m)) (ns s) + nm s c a = nm s c (a + m) := by
  intro m
  induction m with
  | zero =>
    intro _
    show 0 + tc s c (nm s c a) (nm s c a) (ns s) + nm s c a = nm s c a
    rw [tc_empty (by omega)]
    omega
  | succ m ih =>
    intro hm
    have ih := ih (by omega)
    have hu := nm_up hV (c := c) (y := a + m) (by omega)
    show unl s c a m + (if nm s c (a + m + 1) = nm s c (a + m) then 0 else 1) + tc s c (nm s c a) (nm s c (a + m + 1)) (ns s) + nm s c a = nm s c (a + m + 1)
    by_cases q : nm s c (a + m + 1) = nm s c (a + m)
    · rw [if_pos q, q]
      omega
    · rw [if_neg q]
      have h0 : tc s c (nm s c a) (nm s c (a + m) + 1) (ns s) = tc s c (nm s c a) (nm s c (a + m)) (ns s) := by
        rw [tc_step, c1_is hV _ (Nat.le_refl _), if_neg (nm_unsold hV (by omega))]
        split <;> rfl
      have hlow : nm s c a ≤ nm s c (a + m) := by omega
      have h1 : ∀ j, nm s c (a + m) + 1 + j ≤ nm s c (a + m + 1) → tc s c (nm s c a) (nm s c (a + m) + 1 + j) (ns s) = tc s c (nm s c a) (nm s c (a + m)) (ns s) + j := by
        intro j
        induction j with
        | zero => intro _; exact h0
        | succ j ihj =>
          intro hj
          have := ihj (by omega)
          show tc s c (nm s c a) (nm s c (a + m) + 1 + j + 1) (ns s) = _
          rw [tc_step, c1_is hV _ (Nat.le_refl _), if_pos (by omega), if_pos (nm_gap hV (y := a + m) (by omega) (by omega) (by omega)), this]
          omega
      have := h1 (nm s c (a + m + 1) - (nm s c (a + m) + 1)) (by omega)
      rw [show nm s c (a + m) + 1 + (nm s c (a + m + 1) - (nm s c (a + m) + 1)) = nm s c (a + m + 1) by omega] at this
      omega
