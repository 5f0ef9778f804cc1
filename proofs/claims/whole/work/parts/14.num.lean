/-! ===== numbers ===== -/
theorem i_lit (n : Nat) : (OfNat.ofNat n : Int32) = nI n := rfl
theorem i_zero : (0 : Int32) = nI 0 := rfl
theorem i_one : (1 : Int32) = nI 1 := rfl
theorem nI_mul (a b : Nat) : nI a * nI b = nI (a * b) := pk_mul a b
theorem nI_dec (k : Nat) : nI (k + 1) + -nI 1 = nI k := pk_m1 k
theorem nI_inj {a b : Nat} (ha : a < 2 ^ 31) (hb : b < 2 ^ 31) (h : nI a = nI b) : a = b := (nI_eq ha hb).mp h
theorem nI_ne {a b : Nat} (ha : a < 2 ^ 31) (hb : b < 2 ^ 31) (h : a ≠ b) : ¬ nI a = nI b := fun e => h (nI_inj ha hb e)
theorem nI_lt0 {a : Nat} (ha : a < 2 ^ 31) : ¬ nI a < 0 := nI_pos ha
/-- a truth as Java has it -/
def b2 (b : Bool) : Int32 := if b then 1 else 0
theorem b2_t : b2 true = 1 := rfl
theorem b2_f : b2 false = 0 := rfl
theorem b2_01 (b : Bool) : b2 b = 0 ∨ b2 b = 1 := by cases b <;> simp [b2]
theorem b2_0 {b : Bool} : b2 b = 0 ↔ b = false := by cases b <;> simp [b2]
theorem vin_n {n N : Nat} (h : n < N) (hN : N < 2 ^ 31) : vp_in (nI n) N := vp_in_nI h hN
theorem nn_at {n : Nat} (h : n < 2 ^ 31) : (nI n).toNatClampNeg = n := nI_clamp h
theorem vin_get {x : Int32} {n : Nat} (h : vp_in x n) (hn : n < 2 ^ 31) : x = nI x.toNatClampNeg ∧ x.toNatClampNeg < n := by
  obtain ⟨j, hj, rfl⟩ := vp_in_of h hn
  rw [nn_at (by omega)]
  exact ⟨rfl, hj⟩
/-- an argument: below 0, or too large, or one of the numbers below n -/
theorem arg3 (x : Int32) (n : Nat) (hn : n < 2 ^ 31) : x < 0 ∨ (¬ x < 0 ∧ ¬ x < nI n) ∨ ∃ j, j < n ∧ x = nI j := by
  by_cases h0 : x < 0
  · exact .inl h0
  · by_cases h1 : x < nI n
    · obtain ⟨j, hj, rfl⟩ := nI_of h0
      exact .inr (.inr ⟨j, (nI_ltI hj hn).mp h1, rfl⟩)
    · exact .inr (.inl ⟨h0, h1⟩)
theorem nI_nltI {a b : Nat} (ha : a < 2 ^ 31) (hb : b < 2 ^ 31) (h : b ≤ a) : ¬ nI a < nI b := fun q => absurd ((nI_ltI ha hb).mp q) (by omega)
theorem nI_ltI' {a b : Nat} (ha : a < 2 ^ 31) (hb : b < 2 ^ 31) (h : a < b) : nI a < nI b := (nI_ltI ha hb).mpr h
/-- memories -/
theorem mw_at (M : Mem) (k j : Nat) (x : Int32) : (mw M k j x).1 k = upd (M.1 k) j x := mwA_at M k _
theorem mw_ne (M : Mem) {k b : Nat} (j : Nat) (x : Int32) (h : b ≠ k) : (mw M k j x).1 b = M.1 b := mwA_ne M _ h
theorem mw_2 (M : Mem) (k j : Nat) (x : Int32) : (mw M k j x).2 = M.2 := rfl
theorem mwA_2 (M : Mem) (k : Nat) (f : Nat → Int32) : (mwA M k f).2 = M.2 := rfl
theorem ml_1 (M : Mem) (k j : Nat) (x : Int64) : (ml M k j x).1 = M.1 := rfl
theorem mlA_1 (M : Mem) (k : Nat) (f : Nat → Int64) : (mlA M k f).1 = M.1 := rfl
theorem ml_at (M : Mem) (k j : Nat) (x : Int64) : (ml M k j x).2 k = vp_updL (M.2 k) j x := mlA_at M k _
theorem ml_ne (M : Mem) {k b : Nat} (j : Nat) (x : Int64) (h : b ≠ k) : (ml M k j x).2 b = M.2 b := mlA_ne M _ h
theorem upd_at (f : Nat → Int32) (k : Nat) (x : Int32) : upd f k x k = x := if_pos rfl
theorem upd_ne (f : Nat → Int32) {k j : Nat} (x : Int32) (h : j ≠ k) : upd f k x j = f j := if_neg h
theorem mwA_mwA (M : Mem) (k : Nat) (f g : Nat → Int32) : mwA (mwA M k f) k g = mwA M k g := by
  unfold mwA
  congr 1
  funext a
  by_cases h : a = k
  · simp [h]
  · simp [h]
theorem mwA_self (M : Mem) (k : Nat) : mwA M k (M.1 k) = M := by
  unfold mwA
  obtain ⟨a, b⟩ := M
  congr 1
  funext c
  by_cases h : c = k
  · simp [h]
  · simp [h]
theorem mw_mwA (M : Mem) (k : Nat) (f : Nat → Int32) (j : Nat) (x : Int32) : mw (mwA M k f) k j x = mwA M k (upd f j x) := by
  unfold mw
  rw [mwA_mwA, mwA_at]
/-! ===== names of years ===== -/
/-- how many years have names below k -/
def cum (so bo : Nat → Bool) : Nat → Nat
  | 0 => 0
  | k + 1 => cum so bo k + (if so k then 0 else if bo k then 2 else 1)
theorem cum_mono (so bo : Nat → Bool) {a b : Nat} (h : a ≤ b) : cum so bo a ≤ cum so bo b := by
  induction h with
  | refl => exact Nat.le_refl _
  | step _ ih => exact Nat.le_trans ih (Nat.le_add_right _ _)
def isNm (so bo : Nat → Bool) (y nm : Nat) : Prop := cum so bo nm ≤ y ∧ y < cum so bo (nm + 1)
theorem isNm_one {so bo : Nat → Bool} {y a b : Nat} (h1 : isNm so bo y a) (h2 : isNm so bo y b) : a = b := by
  rcases Nat.lt_trichotomy a b with h | h | h
  · have := cum_mono so bo (a := a + 1) (b := b) h
    have := h1.2; have := h2.1
    omega
  · exact h
  · have := cum_mono so bo (a := b + 1) (b := a) h
    have := h2.2; have := h1.1
    omega
def nmS (so bo : Nat → Bool) (y : Nat) : Nat → Nat → Nat
  | 0, k => k
  | f + 1, k => if y < cum so bo (k + 1) then k else nmS so bo y f (k + 1)
/-- the name of a year -/
def nmF (so bo : Nat → Bool) (y : Nat) : Nat := nmS so bo y 400 0
theorem nmS_of {so bo : Nat → Bool} {y nm : Nat} (h : isNm so bo y nm) : ∀ f k, k ≤ nm → nm ≤ k + f → nmS so bo y f k = nm := by
  intro f
  induction f with
  | zero => intro k h1 h2; show k = nm; omega
  | succ f ih =>
    intro k h1 h2
    by_cases hk : k = nm
    · subst hk
      exact if_pos h.2
    · have h3 : ¬ y < cum so bo (k + 1) := by
        have := cum_mono so bo (a := k + 1) (b := nm) (by omega)
        have := h.1
        omega
      show (if y < cum so bo (k + 1) then k else nmS so bo y f (k + 1)) = nm
      rw [if_neg h3]
      exact ih (k + 1) (by omega) (by omega)
theorem nmF_of {so bo : Nat → Bool} {y nm : Nat} (h : isNm so bo y nm) (hn : nm ≤ 400) : nmF so bo y = nm := nmS_of h 400 0 (Nat.zero_le _) (by omega)
/-- one name more that is sold -/
theorem cum_sold {so bo so' bo' : Nat → Bool} {a : Nat} (h1 : so a = false) (h2 : bo a = false) (hs : ∀ k, so' k = (so k || decide (k = a))) (hb : ∀ k, bo' k = bo k) : ∀ k, cum so' bo' k + (if a < k then 1 else 0) = cum so bo k := by
  intro k
  induction k with
  | zero => simp [cum]
  | succ k ih =>
    simp only [cum, hs, hb]
    by_cases e : k = a
    · subst e
      simp only [h1, h2]
      simp at ih ⊢
      omega
    · have e2 : (a < k + 1) ↔ a < k := by omega
      simp only [e, e2, decide_false, Bool.or_false]
      omega
/-- one name more that is bought -/
theorem cum_bought {so bo so' bo' : Nat → Bool} {a : Nat} (h1 : so a = false) (h2 : bo a = false) (hs : ∀ k, so' k = so k) (hb : ∀ k, bo' k = (bo k || decide (k = a))) : ∀ k, cum so' bo' k = cum so bo k + (if a < k then 1 else 0) := by
  intro k
  induction k with
  | zero => simp [cum]
  | succ k ih =>
    simp only [cum, hs, hb]
    by_cases e : k = a
    · subst e
      simp only [h1, h2]
      simp at ih ⊢
      omega
    · have e2 : (a < k + 1) ↔ a < k := by omega
      simp only [e, e2, decide_false, Bool.or_false]
      omega
theorem cum_same {so bo so' bo' : Nat → Bool} (hs : ∀ k, so' k = so k) (hb : ∀ k, bo' k = bo k) : ∀ k, cum so' bo' k = cum so bo k := by
  intro k
  induction k with
  | zero => rfl
  | succ k ih => simp only [cum, hs, hb, ih]
/-- beyond every name that was traded each name has one year -/
theorem cum_flat {so bo : Nat → Bool} {a : Nat} (h : ∀ k, a < k → so k = false ∧ bo k = false) {k : Nat} (hk : a < k) : cum so bo (k + 1) = cum so bo k + 1 := by
  obtain ⟨h1, h2⟩ := h k hk
  simp [cum, h1, h2]
/-- a county's step over a sale: it sold the name a -/
theorem nm_sold {so bo so' bo' : Nat → Bool} {a y nm : Nat} (h1 : so a = false) (h2 : bo a = false) (hs : ∀ k, so' k = (so k || decide (k = a))) (hb : ∀ k, bo' k = bo k) (hf : ∀ k, a < k → so k = false ∧ bo k = false) (h : isNm so bo y nm) : isNm so' bo' y (if a ≤ nm then nm + 1 else nm) := by
  have hc := cum_sold h1 h2 hs hb
  by_cases e : a ≤ nm
  · rw [if_pos e]
    have e1 : cum so bo (nm + 1) = cum so bo nm + 1 := by
      by_cases e2 : a = nm
      · subst e2; simp [cum, h1, h2]
      · exact cum_flat hf (by omega)
    have e3 := cum_flat hf (k := nm + 1) (by omega)
    have c1 := hc (nm + 1); have c2 := hc (nm + 1 + 1)
    rw [if_pos (by omega)] at c1 c2
    obtain ⟨h3, h4⟩ := h
    refine ⟨?_, ?_⟩ <;> omega
  · rw [if_neg e]
    have c1 := hc nm; have c2 := hc (nm + 1)
    rw [if_neg (by omega)] at c1 c2
    obtain ⟨h3, h4⟩ := h
    refine ⟨?_, ?_⟩ <;> omega
theorem nm_bought {so bo so' bo' : Nat → Bool} {a y nm : Nat} (h1 : so a = false) (h2 : bo a = false) (hs : ∀ k, so' k = so k) (hb : ∀ k, bo' k = (bo k || decide (k = a))) (hf : ∀ k, a < k → so k = false ∧ bo k = false) (h : isNm so bo y nm) : isNm so' bo' y (if a < nm then nm - 1 else nm) := by
  have hc := cum_bought h1 h2 hs hb
  by_cases e : a < nm
  · rw [if_pos e]
    have e1 := cum_flat hf e
    have e2 : cum so bo (nm - 1 + 1) = cum so bo (nm - 1) + 1 := by
      by_cases e4 : a = nm - 1
      · rw [← e4]; simp [cum, h1, h2]
      · exact cum_flat hf (by omega)
    have e5 : nm - 1 + 1 = nm := by omega
    rw [e5] at e2
    have c1 := hc (nm - 1); have c2 := hc (nm - 1 + 1)
    rw [e5] at c2
    rw [if_pos e] at c2
    obtain ⟨h3, h4⟩ := h
    refine ⟨?_, ?_⟩
    · split at c1 <;> omega
    · rw [e5]; omega
  · rw [if_neg e]
    have c1 := hc nm; have c2 := hc (nm + 1)
    rw [if_neg e] at c1
    obtain ⟨h3, h4⟩ := h
    refine ⟨?_, ?_⟩
    · omega
    · split at c2 <;> omega
