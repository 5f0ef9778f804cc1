/-! ===== the class's sales: three rows, and an order by names ===== -/
def SKY (M : Mem) (b : Nat) (s : Nat → Int32) : Prop := M.1 b 4 = s 0 ∧ (∀ k, k < ns s → M.1 (b + 1) k = s (10 + 3 * k + 0) ∧ M.1 (b + 2) k = s (10 + 3 * k + 1) ∧ M.1 (b + 3) k = s (10 + 3 * k + 2)) ∧
  ∃ p : Nat → Nat, (∀ i, i < ns s → M.1 (b + 4) i = nI (p i)) ∧ isOrd s p (ns s) ∧ ∀ i j, i < j → j < ns s → sa s (p i) ≤ sa s (p j)
theorem SKY.at {M : Mem} {b : Nat} {s : Nat → Int32} (hV : VS s) (h : SKY M b s) {k : Nat} (hk : k < ns s) : M.1 (b + 1) k = nI (sa s k) ∧ M.1 (b + 2) k = nI (sf s k) ∧ M.1 (b + 3) k = nI (st s k) := by
  obtain ⟨h1, h2, h3⟩ := h.2.1 k hk
  have g := (hV.2.2.1 k hk).1
  exact ⟨h1.trans (g 0 (by omega)), h2.trans (g 1 (by omega)), h3.trans (g 2 (by omega))⟩
theorem nameOf_ok {xs : gX} {d : Nat} {M : Mem} {Q : Int32 → Mem → Prop} {s : Nat → Int32} {c y : Nat} (hV : VS s) (hS : SKY M 15 s) (hc : c < 1000) (hy : y < 300) (hQ : Q (nI (nm s c y)) M) : MI xs d mX6_nameOf [.ref 15, .int (nI c), .int (nI y)] M Q := by
  obtain ⟨h0, hk, p, hp1, hp2, hp3⟩ := id hS
  have hn6 := hV.2.1
  have key : ∀ m i name, i + m = ns s → isNm (fun k => hP s p 1 c k i) (fun k => hP s p 2 c k i) y name → name ≤ y + i → GW xs d mX6_nameOf 5 [(0, .ref 15), (1, .int (nI c)), (2, .int (nI y)), (3, .int (nI name)), (4, .int (nI i))] [] M (QI Q) := by
    intro m
    induction m with
    | zero =>
      intro i name hi hnm hle
      have e : i = ns s := by omega
      subst e
      apply wp_X6_nameOf_15_L5
      rw [h0, hV.1]
      refine ite_n (nI_nltI (by omega) (by omega) (by omega)) ?_
      have e2 : nm s c y = name := by
        refine nm_of ⟨?_, ?_⟩ (by omega)
        · have h1 := hnm.1
          rw [cum_same (so := so s c) (bo := bo s c) (fun k => hP_all hp2) (fun k => hP_all hp2)] at h1
          exact h1
        · have h1 := hnm.2
          rw [cum_same (so := so s c) (bo := bo s c) (fun k => hP_all hp2) (fun k => hP_all hp2)] at h1
          exact h1
      rw [e2] at hQ
      exact hQ
    | succ m ih =>
      intro i name hi hnm hle
      have hin : i < ns s := by omega
      have hpi := hp2.1 i hin
      obtain ⟨va, vf, vt⟩ := SKY.at hV hS hpi
      obtain ⟨-, g1, g2, g3, g4, g5⟩ := hV.2.2.1 (p i) hpi
      have hpo : isOrd s p (i + 1) := ⟨fun j hj => hp2.1 j (by omega), fun j j' hj hj' => hp2.2 j j' (by omega) (by omega)⟩
      obtain ⟨t1, t2, t3⟩ := hP_step (c := c) hV hpo
      have flat : ∀ w, ∀ k, sa s (p i) < k → hP s p w c k i = false := by
        intro w k hk2
        cases hb : hP s p w c k i
        · rfl
        · obtain ⟨j, hj, e1, -⟩ := hP_iff.mp hb
          have := hp3 j i hj hin
          have e3 : sa s (p j) = k := e1
          omega
      apply wp_X6_nameOf_15_L5
      rw [h0, hV.1]
      refine ite_p (nI_ltI' (by omega) (by omega) (by omega)) ⟨vin_n (by omega) (by omega), ?_⟩
      rw [nn_at (by omega), hp1 i hin, nn_at (by omega), va, vf, vt]
      refine ⟨vin_n (by omega) (by omega), ?_⟩
      simp only [nI_1]
      by_cases q1 : sf s (p i) = c
      · rw [q1]
        refine ite_p rfl ?_
        by_cases q2 : name < sa s (p i)
        · refine ite_p (nI_ltI' (by omega) (by omega) q2) ?_
          refine ite_n (nI_ne (by omega) (by omega) (by omega)) ?_
          have := nm_sold (so := fun k => hP s p 1 c k i) (bo := fun k => hP s p 2 c k i) (so' := fun k => hP s p 1 c k (i + 1)) (bo' := fun k => hP s p 2 c k (i + 1)) (a := sa s (p i)) (hP_fresh hV hpo (.inl rfl) (.inl rfl) q1) (hP_fresh hV hpo (.inr rfl) (.inl rfl) q1) (t1 q1).1 (t1 q1).2 (fun k hk2 => ⟨flat 1 k hk2, flat 2 k hk2⟩) hnm
          rw [if_neg (by omega)] at this
          exact ih (i + 1) name (by omega) this (by omega)
        · refine ite_n (nI_nltI (by omega) (by omega) (by omega)) ?_
          have := nm_sold (so := fun k => hP s p 1 c k i) (bo := fun k => hP s p 2 c k i) (so' := fun k => hP s p 1 c k (i + 1)) (bo' := fun k => hP s p 2 c k (i + 1)) (a := sa s (p i)) (hP_fresh hV hpo (.inl rfl) (.inl rfl) q1) (hP_fresh hV hpo (.inr rfl) (.inl rfl) q1) (t1 q1).1 (t1 q1).2 (fun k hk2 => ⟨flat 1 k hk2, flat 2 k hk2⟩) hnm
          rw [if_pos (by omega)] at this
          exact ih (i + 1) (name + 1) (by omega) this (by omega)
      · refine ite_n (nI_ne (by omega) (by omega) q1) ?_
        by_cases q3 : st s (p i) = c
        · rw [q3]
          refine ite_p rfl ?_
          have := nm_bought (so := fun k => hP s p 1 c k i) (bo := fun k => hP s p 2 c k i) (so' := fun k => hP s p 1 c k (i + 1)) (bo' := fun k => hP s p 2 c k (i + 1)) (a := sa s (p i)) (hP_fresh hV hpo (.inl rfl) (.inr rfl) q3) (hP_fresh hV hpo (.inr rfl) (.inr rfl) q3) (t2 q3).1 (t2 q3).2 (fun k hk2 => ⟨flat 1 k hk2, flat 2 k hk2⟩) hnm
          by_cases q4 : sa s (p i) < name
          · refine ite_p (nI_ltI' (by omega) (by omega) q4) ?_
            rw [if_pos q4] at this
            obtain ⟨nk, rfl⟩ : ∃ nk, name = nk + 1 := ⟨name - 1, by omega⟩
            rw [pk_m1]
            exact ih (i + 1) nk (by omega) this (by omega)
          · refine ite_n (nI_nltI (by omega) (by omega) (by omega)) ?_
            rw [if_neg q4] at this
            exact ih (i + 1) name (by omega) this (by omega)
        · refine ite_n (nI_ne (by omega) (by omega) q3) ?_
          refine ih (i + 1) name (by omega) ⟨?_, ?_⟩ (by omega)
          · rw [cum_same (so := fun k => hP s p 1 c k i) (bo := fun k => hP s p 2 c k i) (t3 q1 q3).1 (t3 q1 q3).2]; exact hnm.1
          · rw [cum_same (so := fun k => hP s p 1 c k i) (bo := fun k => hP s p 2 c k i) (t3 q1 q3).1 (t3 q1 q3).2]; exact hnm.2
  apply wp_X6_nameOf_15
  refine key (ns s) 0 y (by omega) ⟨?_, ?_⟩ (by omega)
  · have : cum (fun k => hP s p 1 c k 0) (fun k => hP s p 2 c k 0) y = y := cum_id y
    omega
  · have : cum (fun k => hP s p 1 c k 0) (fun k => hP s p 2 c k 0) (y + 1) = y + 1 := cum_id (y + 1)
    omega
/-- a date -/
theorem dateOf_ok {xs : gX} {d : Nat} {M : Mem} {Q : Int32 → Mem → Prop} {s : Nat → Int32} {c y : Nat} (hV : VS s) (hS : SKY M 15 s) (hc : c < 1000) (hy : y < 73000) (hQ : Q (nI (nm s c (y / 365) * 1000 + y % 365)) M) : MI xs (d + 1) mX6_dateOf [.ref 15, .int (nI c), .int (nI y)] M Q := by
  apply wp_X6_dateOf_15
  rw [show (365 : Int32) = nI 365 from rfl, pk_div (by omega) (by omega) (by omega)]
  refine nameOf_ok hV hS hc (by omega) ?_
  rw [show nI y - nI (y / 365) * nI 365 = nI (y % 365) by rw [← pk_rem (by omega) (by omega) (by omega), pk_div (by omega) (by omega) (by omega)], show (1000 : Int32) = nI 1000 from rfl, nI_mul, nI_add]
  exact hQ
/-- whether one of two counties has part in a sale of that name -/
def trB (s : Nat → Int32) (a f t : Nat) : Bool := hN s 1 f a (ns s) || hN s 2 f a (ns s) || hN s 1 t a (ns s) || hN s 2 t a (ns s)
theorem trB_iff {s : Nat → Int32} {a f t : Nat} : trB s a f t = true ↔ ∃ j, j < ns s ∧ sa s j = a ∧ (sf s j = f ∨ st s j = f ∨ sf s j = t ∨ st s j = t) := by
  simp only [trB, Bool.or_eq_true, hN_iff]
  constructor
  · rintro (((⟨j, h1, h2, h3⟩ | ⟨j, h1, h2, h3⟩) | ⟨j, h1, h2, h3⟩) | ⟨j, h1, h2, h3⟩)
    · exact ⟨j, h1, h2, .inl h3⟩
    · exact ⟨j, h1, h2, .inr (.inl h3)⟩
    · exact ⟨j, h1, h2, .inr (.inr (.inl h3))⟩
    · exact ⟨j, h1, h2, .inr (.inr (.inr h3))⟩
  · rintro ⟨j, h1, h2, h3 | h3 | h3 | h3⟩
    · exact .inl (.inl (.inl ⟨j, h1, h2, h3⟩))
    · exact .inl (.inl (.inr ⟨j, h1, h2, h3⟩))
    · exact .inl (.inr ⟨j, h1, h2, h3⟩)
    · exact .inr ⟨j, h1, h2, h3⟩
theorem isFree_ok {xs : gX} {d : Nat} {M : Mem} {Q : Int32 → Mem → Prop} {s : Nat → Int32} {a f t : Nat} (hV : VS s) (hS : SKY M 15 s) (ha : a < 1000) (hf : f < 1000) (ht : t < 1000) (hQ : Q (b2 (!trB s a f t)) M) : MI xs (d + 1) mX6_isFree [.ref 15, .int (nI a), .int (nI f), .int (nI t)] M Q := by
  have hn6 := hV.2.1
  have h0 := hS.1
  have key : ∀ m i, i + m = ns s → (∀ j, j < i → ¬ (sa s j = a ∧ (sf s j = f ∨ st s j = f ∨ sf s j = t ∨ st s j = t))) → GW xs (d + 1) mX6_isFree 3 [(0, .ref 15), (1, .int (nI a)), (2, .int (nI f)), (3, .int (nI t)), (4, .int (nI i))] [] M (QI Q) := by
    intro m
    induction m with
    | zero =>
      intro i hi hno
      apply wp_X6_isFree_15_L3
      rw [h0, hV.1]
      refine ite_n (nI_nltI (by omega) (by omega) (by omega)) ?_
      have e : trB s a f t = false := by
        cases h : trB s a f t
        · rfl
        · obtain ⟨j, h1, h2⟩ := trB_iff.mp h
          exact absurd h2 (hno j (by omega))
      rw [e] at hQ
      exact hQ
    | succ m ih =>
      intro i hi hno
      have hin : i < ns s := by omega
      obtain ⟨va, vf, vt⟩ := SKY.at hV hS hin
      obtain ⟨-, g1, g2, g3, g4, g5⟩ := hV.2.2.1 i hin
      have yes : sa s i = a → (sf s i = f ∨ st s i = f ∨ sf s i = t ∨ st s i = t) → Q 0 M := by
        intro e1 e2
        have e : trB s a f t = true := trB_iff.mpr ⟨i, hin, e1, e2⟩
        rw [e] at hQ
        exact hQ
      have no : ¬ (sa s i = a ∧ (sf s i = f ∨ st s i = f ∨ sf s i = t ∨ st s i = t)) → GW xs (d + 1) mX6_isFree 3 [(0, .ref 15), (1, .int (nI a)), (2, .int (nI f)), (3, .int (nI t)), (4, .int (nI (i + 1)))] [] M (QI Q) := by
        intro e
        refine ih (i + 1) (by omega) (fun j hj => ?_)
        by_cases e2 : j = i
        · subst e2; exact e
        · exact hno j (by omega)
      apply wp_X6_isFree_15_L3
      rw [h0, hV.1]
      refine ite_p (nI_ltI' (by omega) (by omega) (by omega)) ⟨vin_n (by omega) (by omega), ?_⟩
      rw [nn_at (by omega), va, vf, vt, nI_1]
      by_cases q0 : sa s i = a
      · refine ite_p (by rw [q0]) ?_
        by_cases q1 : sf s i = f
        · exact ite_p (by rw [q1]) (yes q0 (.inl q1))
        · refine ite_n (nI_ne (by omega) (by omega) q1) ?_
          by_cases q2 : st s i = f
          · exact ite_p (by rw [q2]) (yes q0 (.inr (.inl q2)))
          · refine ite_n (nI_ne (by omega) (by omega) q2) ?_
            by_cases q3 : sf s i = t
            · exact ite_p (by rw [q3]) (yes q0 (.inr (.inr (.inl q3))))
            · refine ite_n (nI_ne (by omega) (by omega) q3) ?_
              by_cases q4 : st s i = t
              · exact ite_p (by rw [q4]) (yes q0 (.inr (.inr (.inr q4))))
              · exact ite_n (nI_ne (by omega) (by omega) q4) (no (by rintro ⟨-, h | h | h | h⟩ <;> contradiction))
      · exact ite_n (nI_ne (by omega) (by omega) q0) (no (fun h => q0 h.1))
  apply wp_X6_isFree_15
  exact key (ns s) 0 (by omega) (fun j hj => by omega)
