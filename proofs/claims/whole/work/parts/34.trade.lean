/-- cells that may change -/
def FR (l : List Nat) (M M1 : Mem) : Prop := M1.2 = M.2 ∧ ∀ k, k ∉ l → M1.1 k = M.1 k
theorem FR.rfl' {l : List Nat} {M : Mem} : FR l M M := ⟨rfl, fun _ _ => rfl⟩
theorem FR.trans {l : List Nat} {M M1 M2 : Mem} (h1 : FR l M M1) (h2 : FR l M1 M2) : FR l M M2 := ⟨h2.1.trans h1.1, fun k hk => (h2.2 k hk).trans (h1.2 k hk)⟩
theorem FR.mono {l l' : List Nat} {M M1 : Mem} (h : FR l M M1) (hl : ∀ k, k ∈ l → k ∈ l') : FR l' M M1 := ⟨h.1, fun k hk => h.2 k (fun q => hk (hl k q))⟩
theorem FR.mw {l : List Nat} {M M1 : Mem} (h : FR l M M1) {k j : Nat} {x : Int32} (hk : k ∈ l) : FR l M (mw M1 k j x) := ⟨h.1, fun b hb => (mw_ne M1 j x (fun e => hb (by rw [e]; exact hk))).trans (h.2 b hb)⟩
theorem FR.mwA {l : List Nat} {M M1 : Mem} (h : FR l M M1) {k : Nat} {f : Nat → Int32} (hk : k ∈ l) : FR l M (mwA M1 k f) := ⟨h.1, fun b hb => (mwA_ne M1 f (fun e => hb (by rw [e]; exact hk))).trans (h.2 b hb)⟩
/-- one sale more -/
def sAdd (s : Nat → Int32) (a f t : Int32) : Nat → Int32 := upd (upd (upd (upd s (10 + 3 * ns s + 0) a) (10 + 3 * ns s + 1) f) (10 + 3 * ns s + 2) t) 0 (nI (ns s + 1))
/-- one sale less -/
def sLess (s : Nat → Int32) : Nat → Int32 := upd s 0 (nI (ns s - 1))
theorem ns_lt {s : Nat → Int32} (hV : VS s) : ns s < 7 := by have := hV.2.1; omega
theorem ns_add {s : Nat → Int32} (hV : VS s) (a f t : Int32) : ns (sAdd s a f t) = ns s + 1 := by
  have := hV.2.1
  show ((sAdd s a f t) 0).toNatClampNeg = _
  rw [sAdd, upd_at, nn_at (by omega)]
theorem sx_add_old {s : Nat → Int32} (a f t : Int32) {w k : Nat} (hk : k < ns s) (hw : w < 3) : (sAdd s a f t) (10 + 3 * k + w) = s (10 + 3 * k + w) := by
  rw [sAdd, upd_ne _ _ (by omega), upd_ne _ _ (by omega), upd_ne _ _ (by omega), upd_ne _ _ (by omega)]
theorem sx_add_new {s : Nat → Int32} (a f t : Int32) : (sAdd s a f t) (10 + 3 * ns s + 0) = a ∧ (sAdd s a f t) (10 + 3 * ns s + 1) = f ∧ (sAdd s a f t) (10 + 3 * ns s + 2) = t := by
  refine ⟨?_, ?_, ?_⟩
  · rw [sAdd, upd_ne _ _ (by omega), upd_ne _ _ (by omega), upd_ne _ _ (by omega), upd_at]
  · rw [sAdd, upd_ne _ _ (by omega), upd_ne _ _ (by omega), upd_at]
  · rw [sAdd, upd_ne _ _ (by omega), upd_at]
theorem sAdd_far {s : Nat → Int32} (a f t : Int32) {j : Nat} (h0 : j ≠ 0) (h : j < 10 ∨ 10 + 3 * ns s + 2 < j) : (sAdd s a f t) j = s j := by
  rw [sAdd, upd_ne _ _ h0, upd_ne _ _ (by omega), upd_ne _ _ (by omega), upd_ne _ _ (by omega)]
theorem VS_add {s : Nat → Int32} (hV : VS s) {a f t : Nat} (hn : ns s < 6) (ha : 1 ≤ a) (ha2 : a ≤ 150) (hf : f < 4) (ht : t < 4) (hne : f ≠ t) (hfree : trB s a f t = false) : VS (sAdd s (nI a) (nI f) (nI t)) := by
  have e1 := ns_add hV (nI a) (nI f) (nI t)
  obtain ⟨n0, n1, n2⟩ := sx_add_new (s := s) (nI a) (nI f) (nI t)
  have old : ∀ k w, k < ns s → w < 3 → sx (sAdd s (nI a) (nI f) (nI t)) w k = sx s w k := fun k w hk hw => by
    show ((sAdd s (nI a) (nI f) (nI t)) (10 + 3 * k + w)).toNatClampNeg = _
    rw [sx_add_old _ _ _ hk hw]; rfl
  have x0 : sx (sAdd s (nI a) (nI f) (nI t)) 0 (ns s) = a := by
    show ((sAdd s (nI a) (nI f) (nI t)) (10 + 3 * ns s + 0)).toNatClampNeg = _
    rw [n0, nn_at (by omega)]
  have x1 : sx (sAdd s (nI a) (nI f) (nI t)) 1 (ns s) = f := by
    show ((sAdd s (nI a) (nI f) (nI t)) (10 + 3 * ns s + 1)).toNatClampNeg = _
    rw [n1, nn_at (by omega)]
  have x2 : sx (sAdd s (nI a) (nI f) (nI t)) 2 (ns s) = t := by
    show ((sAdd s (nI a) (nI f) (nI t)) (10 + 3 * ns s + 2)).toNatClampNeg = _
    rw [n2, nn_at (by omega)]
  refine ⟨by rw [e1]; exact upd_at _ _ _, by omega, fun k hk => ?_, fun j k hjk hk => ?_⟩
  · rw [e1] at hk
    by_cases hkn : k = ns s
    · subst hkn
      refine ⟨fun w hw => ?_, by rw [sa, x0]; exact ha, by rw [sa, x0]; exact ha2, by rw [sf, x1]; exact hf, by rw [st, x2]; exact ht, by rw [sf, st, x1, x2]; exact hne⟩
      rcases (show w = 0 ∨ w = 1 ∨ w = 2 by omega) with rfl | rfl | rfl
      · rw [x0, n0]
      · rw [x1, n1]
      · rw [x2, n2]
    · have hk' : k < ns s := by omega
      obtain ⟨g0, g⟩ := hV.2.2.1 k hk'
      refine ⟨fun w hw => ?_, ?_⟩
      · rw [sx_add_old _ _ _ hk' hw, old k w hk' hw]; exact g0 w hw
      · rw [sa, sf, st, old k 0 hk' (by omega), old k 1 hk' (by omega), old k 2 hk' (by omega)]; exact g
  · rw [e1] at hk
    by_cases hkn : k = ns s
    · subst hkn
      intro e
      rw [sa, sa, x0, old j 0 hjk (by omega)] at e
      rw [sf, sf, st, st, x1, x2, old j 1 hjk (by omega), old j 2 hjk (by omega)]
      have no : ¬ ∃ j, j < ns s ∧ sa s j = a ∧ (sf s j = f ∨ st s j = f ∨ sf s j = t ∨ st s j = t) := fun h => by rw [trB_iff.mpr h] at hfree; cases hfree
      exact ⟨fun h => no ⟨j, hjk, e, .inl h⟩, fun h => no ⟨j, hjk, e, .inr (.inr (.inl h))⟩, fun h => no ⟨j, hjk, e, .inr (.inl h)⟩, fun h => no ⟨j, hjk, e, .inr (.inr (.inr h))⟩⟩
    · have hk' : k < ns s := by omega
      have hj' : j < ns s := by omega
      rw [sa, sa, sf, sf, st, st, old j 0 hj' (by omega), old j 1 hj' (by omega), old j 2 hj' (by omega), old k 0 hk' (by omega), old k 1 hk' (by omega), old k 2 hk' (by omega)]
      exact hV.2.2.2 j k hjk hk'
theorem ns_less {s : Nat → Int32} (hV : VS s) : ns (sLess s) = ns s - 1 := by
  have := hV.2.1
  show ((sLess s) 0).toNatClampNeg = _
  rw [sLess, upd_at, nn_at (by omega)]
theorem sLess_far {s : Nat → Int32} {j : Nat} (h0 : j ≠ 0) : (sLess s) j = s j := by rw [sLess, upd_ne _ _ h0]
theorem sx_less {s : Nat → Int32} {w k : Nat} : sx (sLess s) w k = sx s w k := by
  show ((sLess s) (10 + 3 * k + w)).toNatClampNeg = _
  rw [sLess_far (by omega)]; rfl
theorem VS_less {s : Nat → Int32} (hV : VS s) : VS (sLess s) := by
  have e := ns_less hV
  refine ⟨by rw [e]; exact upd_at _ _ _, by have := hV.2.1; omega, fun k hk => ?_, fun j k hjk hk => ?_⟩
  · obtain ⟨g0, g⟩ := hV.2.2.1 k (by omega)
    refine ⟨fun w hw => by rw [sLess_far (by omega), sx_less]; exact g0 w hw, ?_⟩
    simp only [sa, sf, st, sx_less] at g ⊢
    exact g
  · simp only [sa, sf, st, sx_less]
    exact hV.2.2.2 j k hjk (by omega)
/-- a sale is put in: the order stays one by names -/
theorem add_ok {xs : gX} {d : Nat} {M : Mem} {Q : Mem → Prop} {s : Nat → Int32} {a f t : Nat} (hV : VS s) (hS : SKY M 15 s) (hn : ns s < 6) (ha : a < 1000) (hQ : ∀ M1, FR [15, 16, 17, 18, 19] M M1 → (∀ j, j ≠ 4 → M1.1 15 j = M.1 15 j) → SKY M1 15 (sAdd s (nI a) (nI f) (nI t)) → Q M1) : MV xs d mX6_add [.ref 15, .int (nI a), .int (nI f), .int (nI t)] M Q := by
  obtain ⟨h0, hk, p, hp1, hp2, hp3⟩ := id hS
  have e1 := ns_add hV (nI a) (nI f) (nI t)
  obtain ⟨n0, n1, n2⟩ := sx_add_new (s := s) (nI a) (nI f) (nI t)
  have old : ∀ k w, k < ns s → w < 3 → sx (sAdd s (nI a) (nI f) (nI t)) w k = sx s w k := fun k w hk hw => by
    show ((sAdd s (nI a) (nI f) (nI t)) (10 + 3 * k + w)).toNatClampNeg = _
    rw [sx_add_old _ _ _ hk hw]; rfl
  have x0 : sx (sAdd s (nI a) (nI f) (nI t)) 0 (ns s) = a := by
    show ((sAdd s (nI a) (nI f) (nI t)) (10 + 3 * ns s + 0)).toNatClampNeg = _
    rw [n0, nn_at (by omega)]
  -- what stands when the place q is found
  have fin : ∀ q g, q ≤ ns s → (∀ i, i < q → g i = nI (p i)) → (∀ i, q < i → i ≤ ns s → g i = nI (p (i - 1))) → (∀ i, i < q → sa s (p i) ≤ a) → (∀ i, q ≤ i → i < ns s → a < sa s (p i)) →
      Q (mw (mw (mw (mw (mw (mwA M 19 g) 19 q (nI (ns s))) 16 (ns s) (nI a)) 17 (ns s) (nI f)) 18 (ns s) (nI t)) 15 4 (nI (ns s + 1))) := by
    intro q g hq hg1 hg2 hle hgt
    refine hQ _ ?_ ?_ ?_
    · exact FR.mw (FR.mw (FR.mw (FR.mw (FR.mw (FR.mwA FR.rfl' (by decide)) (by decide)) (by decide)) (by decide)) (by decide)) (by decide)
    · intro j hj
      rw [mw_at, upd_ne _ _ hj, mw_ne _ _ _ (by decide), mw_ne _ _ _ (by decide), mw_ne _ _ _ (by decide), mw_ne _ _ _ (by decide), mwA_ne _ _ (by decide)]
    · have r0 : ∀ M', (mw M' 15 4 (nI (ns s + 1))).1 16 = M'.1 16 := fun M' => mw_ne _ _ _ (by decide)
      refine ⟨?_, fun k hk2 => ?_, fun i => if i < q then p i else if i = q then ns s else p (i - 1), fun i hi => ?_, ⟨fun i hi => ?_, fun i j hi hj e => ?_⟩, fun i j hij hj => ?_⟩
      · rw [mw_at, upd_at]; exact (upd_at _ _ _).symm
      · rw [e1] at hk2
        show _ = _ ∧ _ = _ ∧ _ = _
        rw [mw_ne _ _ _ (by decide : 15 + 1 ≠ 15), mw_ne _ _ _ (by decide : 15 + 1 ≠ 18), mw_ne _ _ _ (by decide : 15 + 1 ≠ 17), mw_ne _ _ _ (by decide : 15 + 2 ≠ 15), mw_ne _ _ _ (by decide : 15 + 2 ≠ 18), mw_ne _ _ _ (by decide : 15 + 3 ≠ 15)]
        rw [show (15 + 1 : Nat) = 16 from rfl, show (15 + 2 : Nat) = 17 from rfl, show (15 + 3 : Nat) = 18 from rfl, mw_at, mw_at, mw_at, mw_ne _ _ _ (by decide : 16 ≠ 19), mwA_ne _ _ (by decide : 16 ≠ 19), mw_ne _ _ _ (by decide : 17 ≠ 16), mw_ne _ _ _ (by decide : 17 ≠ 19), mwA_ne _ _ (by decide : 17 ≠ 19), mw_ne _ _ _ (by decide : 18 ≠ 17), mw_ne _ _ _ (by decide : 18 ≠ 16), mw_ne _ _ _ (by decide : 18 ≠ 19), mwA_ne _ _ (by decide : 18 ≠ 19)]
        by_cases hkn : k = ns s
        · subst hkn
          rw [upd_at, upd_at, upd_at]
          exact ⟨n0.symm, n1.symm, n2.symm⟩
        · have hk' : k < ns s := by omega
          rw [upd_ne _ _ hkn, upd_ne _ _ hkn, upd_ne _ _ hkn, sx_add_old _ _ _ hk' (by omega), sx_add_old _ _ _ hk' (by omega), sx_add_old _ _ _ hk' (by omega)]
          exact hk k hk'
      · rw [e1] at hi
        rw [show (15 + 4 : Nat) = 19 from rfl, mw_ne _ _ _ (by decide), mw_ne _ _ _ (by decide), mw_ne _ _ _ (by decide), mw_ne _ _ _ (by decide), mw_at, mwA_at]
        show upd g q (nI (ns s)) i = nI (if i < q then p i else if i = q then ns s else p (i - 1))
        by_cases e2 : i = q
        · subst e2
          rw [upd_at, if_neg (Nat.lt_irrefl i), if_pos rfl]
        · rw [upd_ne _ _ e2]
          by_cases e3 : i < q
          · rw [if_pos e3]; exact hg1 i e3
          · rw [if_neg e3, if_neg e2]; exact hg2 i (by omega) (by omega)
      · rw [e1] at hi ⊢
        show (if i < q then p i else if i = q then ns s else p (i - 1)) < ns s + 1
        split
        · have := hp2.1 i (by omega); omega
        · split
          · omega
          · have := hp2.1 (i - 1) (by omega); omega
      · rw [e1] at hi hj
        have e : (if i < q then p i else if i = q then ns s else p (i - 1)) = (if j < q then p j else if j = q then ns s else p (j - 1)) := e
        have b1 : ∀ i, i < ns s → p i < ns s := hp2.1
        have inj := hp2.2
        by_cases i1 : i < q <;> by_cases j1 : j < q
        · rw [if_pos i1, if_pos j1] at e
          exact inj i j (by omega) (by omega) e
        · rw [if_pos i1, if_neg j1] at e
          by_cases j2 : j = q
          · rw [if_pos j2] at e
            have := b1 i (by omega); omega
          · rw [if_neg j2] at e
            have := inj i (j - 1) (by omega) (by omega) e; omega
        · rw [if_neg i1, if_pos j1] at e
          by_cases i2 : i = q
          · rw [if_pos i2] at e
            have := b1 j (by omega); omega
          · rw [if_neg i2] at e
            have := inj (i - 1) j (by omega) (by omega) e; omega
        · rw [if_neg i1, if_neg j1] at e
          by_cases i2 : i = q <;> by_cases j2 : j = q
          · omega
          · rw [if_pos i2, if_neg j2] at e
            have := b1 (j - 1) (by omega); omega
          · rw [if_neg i2, if_pos j2] at e
            have := b1 (i - 1) (by omega); omega
          · rw [if_neg i2, if_neg j2] at e
            have := inj (i - 1) (j - 1) (by omega) (by omega) e; omega
      · rw [e1] at hj
        show sx _ 0 (if i < q then p i else if i = q then ns s else p (i - 1)) ≤ sx _ 0 (if j < q then p j else if j = q then ns s else p (j - 1))
        have b1 : ∀ i, i < ns s → p i < ns s := hp2.1
        by_cases i1 : i < q
        · rw [if_pos i1, old _ 0 (b1 i (by omega)) (by omega)]
          by_cases j1 : j < q
          · rw [if_pos j1, old _ 0 (b1 j (by omega)) (by omega)]
            exact hp3 i j hij (by omega)
          · rw [if_neg j1]
            by_cases j2 : j = q
            · rw [if_pos j2, x0]; exact hle i i1
            · rw [if_neg j2, old _ 0 (b1 (j - 1) (by omega)) (by omega)]
              exact hp3 i (j - 1) (by omega) (by omega)
        · rw [if_neg i1]
          have j1 : ¬ j < q := by omega
          have j2 : ¬ j = q := by omega
          rw [if_neg j1, if_neg j2, old _ 0 (b1 (j - 1) (by omega)) (by omega)]
          by_cases i2 : i = q
          · rw [if_pos i2, x0]
            have := hgt (j - 1) (by omega) (by omega)
            exact Nat.le_of_lt this
          · rw [if_neg i2, old _ 0 (b1 (i - 1) (by omega)) (by omega)]
            exact hp3 (i - 1) (j - 1) (by omega) (by omega)
  have hs0 : M.1 15 4 = nI (ns s) := h0.trans hV.1
  have loop : ∀ q g, q ≤ ns s → (∀ i, i < q → g i = nI (p i)) → (∀ i, q < i → i ≤ ns s → g i = nI (p (i - 1))) → (∀ i, q ≤ i → i < ns s → a < sa s (p i)) → GW xs d mX6_add 16 [(0, .ref 15), (1, .int (nI a)), (2, .int (nI f)), (3, .int (nI t)), (4, .int (nI q))] [] (mwA M 19 g) (QV Q) := by
    intro q
    induction q with
    | zero =>
      intro g hq hg1 hg2 hgt
      apply wp_X6_add_15_L16
      refine ite_n (by decide) ?_
      rw [mwA_ne _ _ (by decide : 15 ≠ 19), hs0, nn_at (by omega), nn_at (by omega), nI_1]
      exact ⟨vin_n (by omega) (by decide), vin_n (by omega) (by decide), fin 0 g hq hg1 hg2 (fun i hi => by omega) hgt⟩
    | succ q ih =>
      intro g hq hg1 hg2 hgt
      have hpq := hp2.1 q (by omega)
      have va := (SKY.at hV hS hpq).1
      have la : sa s (p q) < 151 := sx_lt hV (w := 0) hpq (by omega)
      apply wp_X6_add_15_L16
      refine ite_p (nI_ltI' (a := 0) (by omega) (by omega) (by omega)) ?_
      rw [mwA_ne _ _ (by decide : 15 ≠ 19), mwA_ne _ _ (by decide : 16 ≠ 19), hs0, nI_pred, nn_at (by omega), nn_at (by omega), nn_at (by omega), nI_1, mwA_at, hg1 q (by omega), nn_at (by omega), va, pk_m1]
      refine ⟨vin_n (by omega) (by decide), vin_n (by omega) (by decide), ?_⟩
      by_cases hc : a < sa s (p q)
      · refine ite_p (nI_ltI' (by omega) (by omega) hc) ⟨vin_n (by omega) (by decide), ?_⟩
        rw [mw_mwA]
        refine ih _ (by omega) (fun i hi => by rw [upd_ne _ _ (by omega)]; exact hg1 i (by omega)) (fun i hi1 hi2 => ?_) (fun i hi1 hi2 => ?_)
        · by_cases e : i = q + 1
          · subst e; rw [upd_at]; rfl
          · rw [upd_ne _ _ e]; exact hg2 i (by omega) hi2
        · by_cases e : i = q
          · subst e; exact hc
          · exact hgt i (by omega) hi2
      · refine ite_n (nI_nltI (by omega) (by omega) (by omega)) ⟨vin_n (by omega) (by decide), vin_n (by omega) (by decide), ?_⟩
        refine fin (q + 1) g hq hg1 hg2 (fun i hi => ?_) hgt
        by_cases e : i = q
        · subst e; omega
        · have := hp3 i q (by omega) (by omega); omega
  apply wp_X6_add_15
  rw [hs0]
  refine ite_p (nI_ltI' (b := 6) (by omega) (by decide) hn) ?_
  have h := loop (ns s) (M.1 19) (Nat.le_refl _) (fun i hi => hp1 i hi) (fun i h1 h2 => by omega) (fun i h1 h2 => by omega)
  rw [mwA_self] at h
  exact h
