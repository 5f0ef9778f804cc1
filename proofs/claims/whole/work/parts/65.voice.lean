/-! ===== voices ===== -/
theorem gA : ∀ (L : List Nat) (b i : Nat), i < L.length → (L ++ [b]).getD i 0 = L.getD i 0 := by
  intro L
  induction L with
  | nil => intro b i h; exact absurd h (Nat.not_lt_zero i)
  | cons a L ih =>
    intro b i h
    cases i with
    | zero => rfl
    | succ i => exact ih b i (Nat.lt_of_succ_lt_succ h)
theorem gB : ∀ (L : List Nat) (b : Nat), (L ++ [b]).getD L.length 0 = b := by
  intro L
  induction L with
  | nil => intro b; rfl
  | cons a L ih => intro b; exact ih b
theorem gL (L : List Nat) (b : Nat) : (L ++ [b]).length = L.length + 1 := by rw [List.length_append]; rfl
/-- what each BODY gives, and which ones begin -/
abbrev vR : Type := Int32 × List Nat
def dE0 (t : Nat) (x : Int32) (L : List Nat) : vR := (x + nI t, L ++ [10])
def dE1 (t : Nat) (x : Int32) (L : List Nat) : vR := ((dE0 t x (L ++ [20])).1 - 7, (dE0 t x (L ++ [20])).2)
def dE4 (t : Nat) (x : Int32) (L : List Nat) : vR := ((dE1 t x (L ++ [50])).1 * 3, (dE1 t x (L ++ [50])).2)
def dE6 (L : List Nat) : vR := (4, L ++ [70])
def dE (t : Nat) : Nat → Int32 → List Nat → vR
  | 1, x, L => dE1 t x L
  | 4, x, L => dE4 t x L
  | 5, x, L => dE1 t x L
  | 6, _, L => dE6 L
  | _, x, L => dE0 t x L
def aE0 (t K : Nat) (x : Int32) (L : List Nat) : vR := ((dE t K x (L ++ [11])).1 * 2, (dE t K x (L ++ [11])).2)
def aE2 (t K : Nat) (x : Int32) (L : List Nat) : vR := (0 - (aE0 t K x (L ++ [30])).1, (aE0 t K x (L ++ [30])).2)
def aE5 (t K : Nat) (x : Int32) (L : List Nat) : vR := aE0 t K (x + 1) (L ++ [60])
def aE6 (t K m : Nat) (x : Int32) (L : List Nat) : vR := ((aE0 t K x (L ++ [71])).1 + nI m, (aE0 t K x (L ++ [71])).2)
def aE (t K m : Nat) : Nat → Int32 → List Nat → vR
  | 2, x, L => aE2 t K x L
  | 5, x, L => aE5 t K x L
  | 6, x, L => aE6 t K m x L
  | _, x, L => aE0 t K x L
def uE0 (t K m : Nat) (x : Int32) (L : List Nat) : vR := ((aE t K m K x (L ++ [12])).1 - nI m, (aE t K m K x (L ++ [12])).2)
def uE3 (t K m : Nat) (x : Int32) (L : List Nat) : vR := uE0 t K m (x / 2) (L ++ [40])
def uE4 (t K m : Nat) (x : Int32) (L : List Nat) : vR := ((uE0 t K m x (L ++ [51])).1 ^^^ nI t, (uE0 t K m x (L ++ [51])).2)
def uE (t K m : Nat) : Nat → Int32 → List Nat → vR
  | 3, x, L => uE3 t K m x L
  | 4, x, L => uE4 t K m x L
  | _, x, L => uE0 t K m x L
def pE0 (t m : Nat) (x : Int32) (L : List Nat) : vR := (if m = t then 0 else x / (nI m - nI t), L ++ [13])
def pE1 (t K m : Nat) (x : Int32) (L : List Nat) : vR := if m = t then (0, (pE0 t m x (L ++ [21])).2) else ((pE0 t m x (L ++ [21])).1 + (aE t K m K 1 (pE0 t m x (L ++ [21])).2).1, (aE t K m K 1 (pE0 t m x (L ++ [21])).2).2)
def pE (t K m : Nat) : Nat → Int32 → List Nat → vR
  | 1, x, L => pE1 t K m x L
  | 4, x, L => pE1 t K m x L
  | 5, x, L => pE1 t K m x L
  | _, x, L => pE0 t m x L
def ptd (t m : Nat) : Nat := if m = t then 1 else 0
theorem dE_len (t k : Nat) (x : Int32) (L : List Nat) : (dE t k x L).2.length ≤ L.length + 3 := by
  unfold dE
  split <;> simp [dE0, dE1, dE4, dE6]
theorem aE0_len (t K : Nat) (x : Int32) (L : List Nat) : (aE0 t K x L).2.length ≤ L.length + 4 := by
  have := dE_len t K x (L ++ [11])
  rw [gL] at this
  show (dE t K x (L ++ [11])).2.length ≤ _
  omega

theorem aE_len (t K m k : Nat) (x : Int32) (L : List Nat) : (aE t K m k x L).2.length ≤ L.length + 5 := by
  have h0 := aE0_len t K x L
  have h2 : (aE2 t K x L).2.length ≤ L.length + 5 := by have := aE0_len t K x (L ++ [30]); rw [gL] at this; show (aE0 t K x (L ++ [30])).2.length ≤ _; omega
  have h5 : (aE5 t K x L).2.length ≤ L.length + 5 := by have := aE0_len t K (x + 1) (L ++ [60]); rw [gL] at this; show (aE0 t K (x + 1) (L ++ [60])).2.length ≤ _; omega
  have h6 : (aE6 t K m x L).2.length ≤ L.length + 5 := by have := aE0_len t K x (L ++ [71]); rw [gL] at this; show (aE0 t K x (L ++ [71])).2.length ≤ _; omega
  unfold aE
  split <;> omega
theorem uE0_len (t K m : Nat) (x : Int32) (L : List Nat) : (uE0 t K m x L).2.length ≤ L.length + 6 := by
  have := aE_len t K m K x (L ++ [12])
  rw [gL] at this
  show (aE t K m K x (L ++ [12])).2.length ≤ _
  omega
theorem uE_len (t K m k : Nat) (x : Int32) (L : List Nat) : (uE t K m k x L).2.length ≤ L.length + 7 := by
  have h0 := uE0_len t K m x L
  have h3 : (uE3 t K m x L).2.length ≤ L.length + 7 := by have := uE0_len t K m (x / 2) (L ++ [40]); rw [gL] at this; show (uE0 t K m (x / 2) (L ++ [40])).2.length ≤ _; omega
  have h4 : (uE4 t K m x L).2.length ≤ L.length + 7 := by have := uE0_len t K m x (L ++ [51]); rw [gL] at this; show (uE0 t K m x (L ++ [51])).2.length ≤ _; omega
  unfold uE
  split <;> omega
theorem pE_len (t K m k : Nat) (x : Int32) (L : List Nat) : (pE t K m k x L).2.length ≤ L.length + 7 := by
  have h0 : (pE0 t m x L).2.length = L.length + 1 := gL L 13
  have h1 : (pE1 t K m x L).2.length ≤ L.length + 7 := by
    have e : (pE0 t m x (L ++ [21])).2.length = L.length + 2 := by rw [show (pE0 t m x (L ++ [21])).2 = (L ++ [21]) ++ [13] from rfl, gL, gL]
    have := aE_len t K m K 1 (pE0 t m x (L ++ [21])).2
    unfold pE1
    split
    · show (pE0 t m x (L ++ [21])).2.length ≤ _; omega
    · show (aE t K m K 1 (pE0 t m x (L ++ [21])).2).2.length ≤ _; omega
  unfold pE
  split <;> omega
/-- the class's choir -/
def CS (M0 : Mem) (t K m pt : Nat) (L : List Nat) (M1 : Mem) : Prop := M1.1 4 1 = nI L.length ∧ (∀ i, i < L.length → M1.1 63 i = nI (L.getD i 0)) ∧ M1.1 4 2 = nI pt ∧ M1.1 4 3 = nI t ∧ M1.1 4 4 = nI K ∧ M1.1 4 5 = nI m ∧ ∀ k, k ≠ 4 → k ≠ 63 → M1.1 k = M0.1 k
theorem CS_note {M0 M1 : Mem} {t K m pt : Nat} {L : List Nat} (b : Nat) (h : CS M0 t K m pt L M1) : CS M0 t K m pt (L ++ [b]) (mw (mw M1 63 L.length (nI b)) 4 1 (nI (L.length + 1))) := by
  obtain ⟨h1, h2, h3, h4, h5, h6, h7⟩ := h
  have e4 : (mw (mw M1 63 L.length (nI b)) 4 1 (nI (L.length + 1))).1 4 = upd (M1.1 4) 1 (nI (L.length + 1)) := by rw [mw_at, mw_ne _ _ _ (by decide)]
  have e63 : (mw (mw M1 63 L.length (nI b)) 4 1 (nI (L.length + 1))).1 63 = upd (M1.1 63) L.length (nI b) := by rw [mw_ne _ _ _ (by decide), mw_at]
  unfold CS
  rw [e4, e63, gL, upd_at, upd_ne _ _ (by decide), upd_ne _ _ (by decide), upd_ne _ _ (by decide), upd_ne _ _ (by decide)]
  refine ⟨rfl, fun i hi => ?_, h3, h4, h5, h6, fun k g1 g2 => by rw [mw_ne _ _ _ g1, mw_ne _ _ _ g2]; exact h7 k g1 g2⟩
  by_cases e : i = L.length
  · subst e; rw [upd_at, gB]
  · rw [upd_ne _ _ e, gA L b i (by omega)]; exact h2 i (by omega)

theorem call_0_0 {xs : gX} {d o : Nat} {M : Mem} {Q : Int32 → Mem → Prop} {x : Int32} (ho : o < 40) (h : MI xs d mX0_work [.ref 4, .int (nI 10), .int x, .int (nI (o + 1))] M Q) : MI xs (d + 1) mX0_call [.ref 4, .int (nI 0), .int (nI 0), .int x, .int (nI o)] M Q := by
  apply wp_X0_call_4
  apply wp_X0_call_4_L6
  rw [show tbF 2001 ((nI 0 * 4) + nI 0).toNatClampNeg = nI 10 from by decide +kernel, nI_1]
  exact ite_p (by decide) (ite_n (by decide) (ite_p (by decide) ⟨vin (by decide +kernel), ite_n (by decide) (ite_p (nI_ltI' (b := 40) (by omega) (by decide) ho) h)⟩))
theorem call_1_0 {xs : gX} {d o : Nat} {M : Mem} {Q : Int32 → Mem → Prop} {x : Int32} (ho : o < 40) (h : MI xs d mX0_work [.ref 4, .int (nI 20), .int x, .int (nI (o + 1))] M Q) : MI xs (d + 1) mX0_call [.ref 4, .int (nI 1), .int (nI 0), .int x, .int (nI o)] M Q := by
  apply wp_X0_call_4
  apply wp_X0_call_4_L6
  rw [show tbF 2001 ((nI 1 * 4) + nI 0).toNatClampNeg = nI 20 from by decide +kernel, nI_1]
  exact ite_p (by decide) (ite_n (by decide) (ite_p (by decide) ⟨vin (by decide +kernel), ite_n (by decide) (ite_p (nI_ltI' (b := 40) (by omega) (by decide) ho) h)⟩))
theorem call_2_0 {xs : gX} {d o : Nat} {M : Mem} {Q : Int32 → Mem → Prop} {x : Int32} (ho : o < 40) (h : MI xs d mX0_work [.ref 4, .int (nI 10), .int x, .int (nI (o + 1))] M Q) : MI xs (d + 1) mX0_call [.ref 4, .int (nI 2), .int (nI 0), .int x, .int (nI o)] M Q := by
  apply wp_X0_call_4
  apply wp_X0_call_4_L6
  rw [show tbF 2001 ((nI 2 * 4) + nI 0).toNatClampNeg = 0 from by decide +kernel, show tbF 2000 (nI 2).toNatClampNeg = nI 0 from by decide +kernel]
  refine ite_p (by decide) (ite_n (by decide) (ite_p (by decide) ⟨vin (by decide +kernel), ite_p rfl ⟨vin (by decide), ?_⟩⟩))
  apply wp_X0_call_4_L6
  rw [show tbF 2001 ((nI 0 * 4) + nI 0).toNatClampNeg = nI 10 from by decide +kernel, nI_1]
  exact ite_p (by decide) (ite_n (by decide) (ite_p (by decide) ⟨vin (by decide +kernel), ite_n (by decide) (ite_p (nI_ltI' (b := 40) (by omega) (by decide) ho) h)⟩))
theorem call_3_0 {xs : gX} {d o : Nat} {M : Mem} {Q : Int32 → Mem → Prop} {x : Int32} (ho : o < 40) (h : MI xs d mX0_work [.ref 4, .int (nI 10), .int x, .int (nI (o + 1))] M Q) : MI xs (d + 1) mX0_call [.ref 4, .int (nI 3), .int (nI 0), .int x, .int (nI o)] M Q := by
  apply wp_X0_call_4
  apply wp_X0_call_4_L6
  rw [show tbF 2001 ((nI 3 * 4) + nI 0).toNatClampNeg = 0 from by decide +kernel, show tbF 2000 (nI 3).toNatClampNeg = nI 0 from by decide +kernel]
  refine ite_p (by decide) (ite_n (by decide) (ite_p (by decide) ⟨vin (by decide +kernel), ite_p rfl ⟨vin (by decide), ?_⟩⟩))
  apply wp_X0_call_4_L6
  rw [show tbF 2001 ((nI 0 * 4) + nI 0).toNatClampNeg = nI 10 from by decide +kernel, nI_1]
  exact ite_p (by decide) (ite_n (by decide) (ite_p (by decide) ⟨vin (by decide +kernel), ite_n (by decide) (ite_p (nI_ltI' (b := 40) (by omega) (by decide) ho) h)⟩))
theorem call_4_0 {xs : gX} {d o : Nat} {M : Mem} {Q : Int32 → Mem → Prop} {x : Int32} (ho : o < 40) (h : MI xs d mX0_work [.ref 4, .int (nI 50), .int x, .int (nI (o + 1))] M Q) : MI xs (d + 1) mX0_call [.ref 4, .int (nI 4), .int (nI 0), .int x, .int (nI o)] M Q := by
  apply wp_X0_call_4
  apply wp_X0_call_4_L6
  rw [show tbF 2001 ((nI 4 * 4) + nI 0).toNatClampNeg = nI 50 from by decide +kernel, nI_1]
  exact ite_p (by decide) (ite_n (by decide) (ite_p (by decide) ⟨vin (by decide +kernel), ite_n (by decide) (ite_p (nI_ltI' (b := 40) (by omega) (by decide) ho) h)⟩))
theorem call_5_0 {xs : gX} {d o : Nat} {M : Mem} {Q : Int32 → Mem → Prop} {x : Int32} (ho : o < 40) (h : MI xs d mX0_work [.ref 4, .int (nI 20), .int x, .int (nI (o + 1))] M Q) : MI xs (d + 1) mX0_call [.ref 4, .int (nI 5), .int (nI 0), .int x, .int (nI o)] M Q := by
  apply wp_X0_call_4
  apply wp_X0_call_4_L6
  rw [show tbF 2001 ((nI 5 * 4) + nI 0).toNatClampNeg = 0 from by decide +kernel, show tbF 2000 (nI 5).toNatClampNeg = nI 1 from by decide +kernel]
  refine ite_p (by decide) (ite_n (by decide) (ite_p (by decide) ⟨vin (by decide +kernel), ite_p rfl ⟨vin (by decide), ?_⟩⟩))
  apply wp_X0_call_4_L6
  rw [show tbF 2001 ((nI 1 * 4) + nI 0).toNatClampNeg = nI 20 from by decide +kernel, nI_1]
  exact ite_p (by decide) (ite_n (by decide) (ite_p (by decide) ⟨vin (by decide +kernel), ite_n (by decide) (ite_p (nI_ltI' (b := 40) (by omega) (by decide) ho) h)⟩))
theorem call_6_0 {xs : gX} {d o : Nat} {M : Mem} {Q : Int32 → Mem → Prop} {x : Int32} (ho : o < 40) (h : MI xs d mX0_work [.ref 4, .int (nI 70), .int x, .int (nI (o + 1))] M Q) : MI xs (d + 1) mX0_call [.ref 4, .int (nI 6), .int (nI 0), .int x, .int (nI o)] M Q := by
  apply wp_X0_call_4
  apply wp_X0_call_4_L6
  rw [show tbF 2001 ((nI 6 * 4) + nI 0).toNatClampNeg = nI 70 from by decide +kernel, nI_1]
  exact ite_p (by decide) (ite_n (by decide) (ite_p (by decide) ⟨vin (by decide +kernel), ite_n (by decide) (ite_p (nI_ltI' (b := 40) (by omega) (by decide) ho) h)⟩))
theorem call_0_1 {xs : gX} {d o : Nat} {M : Mem} {Q : Int32 → Mem → Prop} {x : Int32} (ho : o < 40) (h : MI xs d mX0_work [.ref 4, .int (nI 11), .int x, .int (nI (o + 1))] M Q) : MI xs (d + 1) mX0_call [.ref 4, .int (nI 0), .int (nI 1), .int x, .int (nI o)] M Q := by
  apply wp_X0_call_4
  apply wp_X0_call_4_L6
  rw [show tbF 2001 ((nI 0 * 4) + nI 1).toNatClampNeg = nI 11 from by decide +kernel, nI_1]
  exact ite_p (by decide) (ite_n (by decide) (ite_p (by decide) ⟨vin (by decide +kernel), ite_n (by decide) (ite_p (nI_ltI' (b := 40) (by omega) (by decide) ho) h)⟩))
theorem call_1_1 {xs : gX} {d o : Nat} {M : Mem} {Q : Int32 → Mem → Prop} {x : Int32} (ho : o < 40) (h : MI xs d mX0_work [.ref 4, .int (nI 11), .int x, .int (nI (o + 1))] M Q) : MI xs (d + 1) mX0_call [.ref 4, .int (nI 1), .int (nI 1), .int x, .int (nI o)] M Q := by
  apply wp_X0_call_4
  apply wp_X0_call_4_L6
  rw [show tbF 2001 ((nI 1 * 4) + nI 1).toNatClampNeg = 0 from by decide +kernel, show tbF 2000 (nI 1).toNatClampNeg = nI 0 from by decide +kernel]
  refine ite_p (by decide) (ite_n (by decide) (ite_p (by decide) ⟨vin (by decide +kernel), ite_p rfl ⟨vin (by decide), ?_⟩⟩))
  apply wp_X0_call_4_L6
  rw [show tbF 2001 ((nI 0 * 4) + nI 1).toNatClampNeg = nI 11 from by decide +kernel, nI_1]
  exact ite_p (by decide) (ite_n (by decide) (ite_p (by decide) ⟨vin (by decide +kernel), ite_n (by decide) (ite_p (nI_ltI' (b := 40) (by omega) (by decide) ho) h)⟩))
theorem call_2_1 {xs : gX} {d o : Nat} {M : Mem} {Q : Int32 → Mem → Prop} {x : Int32} (ho : o < 40) (h : MI xs d mX0_work [.ref 4, .int (nI 30), .int x, .int (nI (o + 1))] M Q) : MI xs (d + 1) mX0_call [.ref 4, .int (nI 2), .int (nI 1), .int x, .int (nI o)] M Q := by
  apply wp_X0_call_4
  apply wp_X0_call_4_L6
  rw [show tbF 2001 ((nI 2 * 4) + nI 1).toNatClampNeg = nI 30 from by decide +kernel, nI_1]
  exact ite_p (by decide) (ite_n (by decide) (ite_p (by decide) ⟨vin (by decide +kernel), ite_n (by decide) (ite_p (nI_ltI' (b := 40) (by omega) (by decide) ho) h)⟩))
theorem call_3_1 {xs : gX} {d o : Nat} {M : Mem} {Q : Int32 → Mem → Prop} {x : Int32} (ho : o < 40) (h : MI xs d mX0_work [.ref 4, .int (nI 11), .int x, .int (nI (o + 1))] M Q) : MI xs (d + 1) mX0_call [.ref 4, .int (nI 3), .int (nI 1), .int x, .int (nI o)] M Q := by
  apply wp_X0_call_4
  apply wp_X0_call_4_L6
  rw [show tbF 2001 ((nI 3 * 4) + nI 1).toNatClampNeg = 0 from by decide +kernel, show tbF 2000 (nI 3).toNatClampNeg = nI 0 from by decide +kernel]
  refine ite_p (by decide) (ite_n (by decide) (ite_p (by decide) ⟨vin (by decide +kernel), ite_p rfl ⟨vin (by decide), ?_⟩⟩))
  apply wp_X0_call_4_L6
  rw [show tbF 2001 ((nI 0 * 4) + nI 1).toNatClampNeg = nI 11 from by decide +kernel, nI_1]
  exact ite_p (by decide) (ite_n (by decide) (ite_p (by decide) ⟨vin (by decide +kernel), ite_n (by decide) (ite_p (nI_ltI' (b := 40) (by omega) (by decide) ho) h)⟩))
theorem call_4_1 {xs : gX} {d o : Nat} {M : Mem} {Q : Int32 → Mem → Prop} {x : Int32} (ho : o < 40) (h : MI xs d mX0_work [.ref 4, .int (nI 11), .int x, .int (nI (o + 1))] M Q) : MI xs (d + 1) mX0_call [.ref 4, .int (nI 4), .int (nI 1), .int x, .int (nI o)] M Q := by
  apply wp_X0_call_4
  apply wp_X0_call_4_L6
  rw [show tbF 2001 ((nI 4 * 4) + nI 1).toNatClampNeg = 0 from by decide +kernel, show tbF 2000 (nI 4).toNatClampNeg = nI 1 from by decide +kernel]
  refine ite_p (by decide) (ite_n (by decide) (ite_p (by decide) ⟨vin (by decide +kernel), ite_p rfl ⟨vin (by decide), ?_⟩⟩))
  apply wp_X0_call_4_L6
  rw [show tbF 2001 ((nI 1 * 4) + nI 1).toNatClampNeg = 0 from by decide +kernel, show tbF 2000 (nI 1).toNatClampNeg = nI 0 from by decide +kernel]
  refine ite_p (by decide) (ite_n (by decide) (ite_p (by decide) ⟨vin (by decide +kernel), ite_p rfl ⟨vin (by decide), ?_⟩⟩))
  apply wp_X0_call_4_L6
  rw [show tbF 2001 ((nI 0 * 4) + nI 1).toNatClampNeg = nI 11 from by decide +kernel, nI_1]
  exact ite_p (by decide) (ite_n (by decide) (ite_p (by decide) ⟨vin (by decide +kernel), ite_n (by decide) (ite_p (nI_ltI' (b := 40) (by omega) (by decide) ho) h)⟩))
theorem call_5_1 {xs : gX} {d o : Nat} {M : Mem} {Q : Int32 → Mem → Prop} {x : Int32} (ho : o < 40) (h : MI xs d mX0_work [.ref 4, .int (nI 60), .int x, .int (nI (o + 1))] M Q) : MI xs (d + 1) mX0_call [.ref 4, .int (nI 5), .int (nI 1), .int x, .int (nI o)] M Q := by
  apply wp_X0_call_4
  apply wp_X0_call_4_L6
  rw [show tbF 2001 ((nI 5 * 4) + nI 1).toNatClampNeg = nI 60 from by decide +kernel, nI_1]
  exact ite_p (by decide) (ite_n (by decide) (ite_p (by decide) ⟨vin (by decide +kernel), ite_n (by decide) (ite_p (nI_ltI' (b := 40) (by omega) (by decide) ho) h)⟩))
theorem call_6_1 {xs : gX} {d o : Nat} {M : Mem} {Q : Int32 → Mem → Prop} {x : Int32} (ho : o < 40) (h : MI xs d mX0_work [.ref 4, .int (nI 71), .int x, .int (nI (o + 1))] M Q) : MI xs (d + 1) mX0_call [.ref 4, .int (nI 6), .int (nI 1), .int x, .int (nI o)] M Q := by
  apply wp_X0_call_4
  apply wp_X0_call_4_L6
  rw [show tbF 2001 ((nI 6 * 4) + nI 1).toNatClampNeg = nI 71 from by decide +kernel, nI_1]
  exact ite_p (by decide) (ite_n (by decide) (ite_p (by decide) ⟨vin (by decide +kernel), ite_n (by decide) (ite_p (nI_ltI' (b := 40) (by omega) (by decide) ho) h)⟩))
theorem call_0_2 {xs : gX} {d o : Nat} {M : Mem} {Q : Int32 → Mem → Prop} {x : Int32} (ho : o < 40) (h : MI xs d mX0_work [.ref 4, .int (nI 12), .int x, .int (nI (o + 1))] M Q) : MI xs (d + 1) mX0_call [.ref 4, .int (nI 0), .int (nI 2), .int x, .int (nI o)] M Q := by
  apply wp_X0_call_4
  apply wp_X0_call_4_L6
  rw [show tbF 2001 ((nI 0 * 4) + nI 2).toNatClampNeg = nI 12 from by decide +kernel, nI_1]
  exact ite_p (by decide) (ite_n (by decide) (ite_p (by decide) ⟨vin (by decide +kernel), ite_n (by decide) (ite_p (nI_ltI' (b := 40) (by omega) (by decide) ho) h)⟩))
theorem call_1_2 {xs : gX} {d o : Nat} {M : Mem} {Q : Int32 → Mem → Prop} {x : Int32} (ho : o < 40) (h : MI xs d mX0_work [.ref 4, .int (nI 12), .int x, .int (nI (o + 1))] M Q) : MI xs (d + 1) mX0_call [.ref 4, .int (nI 1), .int (nI 2), .int x, .int (nI o)] M Q := by
  apply wp_X0_call_4
  apply wp_X0_call_4_L6
  rw [show tbF 2001 ((nI 1 * 4) + nI 2).toNatClampNeg = 0 from by decide +kernel, show tbF 2000 (nI 1).toNatClampNeg = nI 0 from by decide +kernel]
  refine ite_p (by decide) (ite_n (by decide) (ite_p (by decide) ⟨vin (by decide +kernel), ite_p rfl ⟨vin (by decide), ?_⟩⟩))
  apply wp_X0_call_4_L6
  rw [show tbF 2001 ((nI 0 * 4) + nI 2).toNatClampNeg = nI 12 from by decide +kernel, nI_1]
  exact ite_p (by decide) (ite_n (by decide) (ite_p (by decide) ⟨vin (by decide +kernel), ite_n (by decide) (ite_p (nI_ltI' (b := 40) (by omega) (by decide) ho) h)⟩))
theorem call_2_2 {xs : gX} {d o : Nat} {M : Mem} {Q : Int32 → Mem → Prop} {x : Int32} (ho : o < 40) (h : MI xs d mX0_work [.ref 4, .int (nI 12), .int x, .int (nI (o + 1))] M Q) : MI xs (d + 1) mX0_call [.ref 4, .int (nI 2), .int (nI 2), .int x, .int (nI o)] M Q := by
  apply wp_X0_call_4
  apply wp_X0_call_4_L6
  rw [show tbF 2001 ((nI 2 * 4) + nI 2).toNatClampNeg = 0 from by decide +kernel, show tbF 2000 (nI 2).toNatClampNeg = nI 0 from by decide +kernel]
  refine ite_p (by decide) (ite_n (by decide) (ite_p (by decide) ⟨vin (by decide +kernel), ite_p rfl ⟨vin (by decide), ?_⟩⟩))
  apply wp_X0_call_4_L6
  rw [show tbF 2001 ((nI 0 * 4) + nI 2).toNatClampNeg = nI 12 from by decide +kernel, nI_1]
  exact ite_p (by decide) (ite_n (by decide) (ite_p (by decide) ⟨vin (by decide +kernel), ite_n (by decide) (ite_p (nI_ltI' (b := 40) (by omega) (by decide) ho) h)⟩))
theorem call_3_2 {xs : gX} {d o : Nat} {M : Mem} {Q : Int32 → Mem → Prop} {x : Int32} (ho : o < 40) (h : MI xs d mX0_work [.ref 4, .int (nI 40), .int x, .int (nI (o + 1))] M Q) : MI xs (d + 1) mX0_call [.ref 4, .int (nI 3), .int (nI 2), .int x, .int (nI o)] M Q := by
  apply wp_X0_call_4
  apply wp_X0_call_4_L6
  rw [show tbF 2001 ((nI 3 * 4) + nI 2).toNatClampNeg = nI 40 from by decide +kernel, nI_1]
  exact ite_p (by decide) (ite_n (by decide) (ite_p (by decide) ⟨vin (by decide +kernel), ite_n (by decide) (ite_p (nI_ltI' (b := 40) (by omega) (by decide) ho) h)⟩))
theorem call_4_2 {xs : gX} {d o : Nat} {M : Mem} {Q : Int32 → Mem → Prop} {x : Int32} (ho : o < 40) (h : MI xs d mX0_work [.ref 4, .int (nI 51), .int x, .int (nI (o + 1))] M Q) : MI xs (d + 1) mX0_call [.ref 4, .int (nI 4), .int (nI 2), .int x, .int (nI o)] M Q := by
  apply wp_X0_call_4
  apply wp_X0_call_4_L6
  rw [show tbF 2001 ((nI 4 * 4) + nI 2).toNatClampNeg = nI 51 from by decide +kernel, nI_1]
  exact ite_p (by decide) (ite_n (by decide) (ite_p (by decide) ⟨vin (by decide +kernel), ite_n (by decide) (ite_p (nI_ltI' (b := 40) (by omega) (by decide) ho) h)⟩))
theorem call_5_2 {xs : gX} {d o : Nat} {M : Mem} {Q : Int32 → Mem → Prop} {x : Int32} (ho : o < 40) (h : MI xs d mX0_work [.ref 4, .int (nI 12), .int x, .int (nI (o + 1))] M Q) : MI xs (d + 1) mX0_call [.ref 4, .int (nI 5), .int (nI 2), .int x, .int (nI o)] M Q := by
  apply wp_X0_call_4
  apply wp_X0_call_4_L6
  rw [show tbF 2001 ((nI 5 * 4) + nI 2).toNatClampNeg = 0 from by decide +kernel, show tbF 2000 (nI 5).toNatClampNeg = nI 1 from by decide +kernel]
  refine ite_p (by decide) (ite_n (by decide) (ite_p (by decide) ⟨vin (by decide +kernel), ite_p rfl ⟨vin (by decide), ?_⟩⟩))
  apply wp_X0_call_4_L6
  rw [show tbF 2001 ((nI 1 * 4) + nI 2).toNatClampNeg = 0 from by decide +kernel, show tbF 2000 (nI 1).toNatClampNeg = nI 0 from by decide +kernel]
  refine ite_p (by decide) (ite_n (by decide) (ite_p (by decide) ⟨vin (by decide +kernel), ite_p rfl ⟨vin (by decide), ?_⟩⟩))
  apply wp_X0_call_4_L6
  rw [show tbF 2001 ((nI 0 * 4) + nI 2).toNatClampNeg = nI 12 from by decide +kernel, nI_1]
  exact ite_p (by decide) (ite_n (by decide) (ite_p (by decide) ⟨vin (by decide +kernel), ite_n (by decide) (ite_p (nI_ltI' (b := 40) (by omega) (by decide) ho) h)⟩))
theorem call_6_2 {xs : gX} {d o : Nat} {M : Mem} {Q : Int32 → Mem → Prop} {x : Int32} (ho : o < 40) (h : MI xs d mX0_work [.ref 4, .int (nI 12), .int x, .int (nI (o + 1))] M Q) : MI xs (d + 1) mX0_call [.ref 4, .int (nI 6), .int (nI 2), .int x, .int (nI o)] M Q := by
  apply wp_X0_call_4
  apply wp_X0_call_4_L6
  rw [show tbF 2001 ((nI 6 * 4) + nI 2).toNatClampNeg = 0 from by decide +kernel, show tbF 2000 (nI 6).toNatClampNeg = nI 0 from by decide +kernel]
  refine ite_p (by decide) (ite_n (by decide) (ite_p (by decide) ⟨vin (by decide +kernel), ite_p rfl ⟨vin (by decide), ?_⟩⟩))
  apply wp_X0_call_4_L6
  rw [show tbF 2001 ((nI 0 * 4) + nI 2).toNatClampNeg = nI 12 from by decide +kernel, nI_1]
  exact ite_p (by decide) (ite_n (by decide) (ite_p (by decide) ⟨vin (by decide +kernel), ite_n (by decide) (ite_p (nI_ltI' (b := 40) (by omega) (by decide) ho) h)⟩))
theorem call_0_3 {xs : gX} {d o : Nat} {M : Mem} {Q : Int32 → Mem → Prop} {x : Int32} (ho : o < 40) (h : MI xs d mX0_work [.ref 4, .int (nI 13), .int x, .int (nI (o + 1))] M Q) : MI xs (d + 1) mX0_call [.ref 4, .int (nI 0), .int (nI 3), .int x, .int (nI o)] M Q := by
  apply wp_X0_call_4
  apply wp_X0_call_4_L6
  rw [show tbF 2001 ((nI 0 * 4) + nI 3).toNatClampNeg = nI 13 from by decide +kernel, nI_1]
  exact ite_p (by decide) (ite_n (by decide) (ite_p (by decide) ⟨vin (by decide +kernel), ite_n (by decide) (ite_p (nI_ltI' (b := 40) (by omega) (by decide) ho) h)⟩))
theorem call_1_3 {xs : gX} {d o : Nat} {M : Mem} {Q : Int32 → Mem → Prop} {x : Int32} (ho : o < 40) (h : MI xs d mX0_work [.ref 4, .int (nI 21), .int x, .int (nI (o + 1))] M Q) : MI xs (d + 1) mX0_call [.ref 4, .int (nI 1), .int (nI 3), .int x, .int (nI o)] M Q := by
  apply wp_X0_call_4
  apply wp_X0_call_4_L6
  rw [show tbF 2001 ((nI 1 * 4) + nI 3).toNatClampNeg = nI 21 from by decide +kernel, nI_1]
  exact ite_p (by decide) (ite_n (by decide) (ite_p (by decide) ⟨vin (by decide +kernel), ite_n (by decide) (ite_p (nI_ltI' (b := 40) (by omega) (by decide) ho) h)⟩))
theorem call_2_3 {xs : gX} {d o : Nat} {M : Mem} {Q : Int32 → Mem → Prop} {x : Int32} (ho : o < 40) (h : MI xs d mX0_work [.ref 4, .int (nI 13), .int x, .int (nI (o + 1))] M Q) : MI xs (d + 1) mX0_call [.ref 4, .int (nI 2), .int (nI 3), .int x, .int (nI o)] M Q := by
  apply wp_X0_call_4
  apply wp_X0_call_4_L6
  rw [show tbF 2001 ((nI 2 * 4) + nI 3).toNatClampNeg = 0 from by decide +kernel, show tbF 2000 (nI 2).toNatClampNeg = nI 0 from by decide +kernel]
  refine ite_p (by decide) (ite_n (by decide) (ite_p (by decide) ⟨vin (by decide +kernel), ite_p rfl ⟨vin (by decide), ?_⟩⟩))
  apply wp_X0_call_4_L6
  rw [show tbF 2001 ((nI 0 * 4) + nI 3).toNatClampNeg = nI 13 from by decide +kernel, nI_1]
  exact ite_p (by decide) (ite_n (by decide) (ite_p (by decide) ⟨vin (by decide +kernel), ite_n (by decide) (ite_p (nI_ltI' (b := 40) (by omega) (by decide) ho) h)⟩))
theorem call_3_3 {xs : gX} {d o : Nat} {M : Mem} {Q : Int32 → Mem → Prop} {x : Int32} (ho : o < 40) (h : MI xs d mX0_work [.ref 4, .int (nI 13), .int x, .int (nI (o + 1))] M Q) : MI xs (d + 1) mX0_call [.ref 4, .int (nI 3), .int (nI 3), .int x, .int (nI o)] M Q := by
  apply wp_X0_call_4
  apply wp_X0_call_4_L6
  rw [show tbF 2001 ((nI 3 * 4) + nI 3).toNatClampNeg = 0 from by decide +kernel, show tbF 2000 (nI 3).toNatClampNeg = nI 0 from by decide +kernel]
  refine ite_p (by decide) (ite_n (by decide) (ite_p (by decide) ⟨vin (by decide +kernel), ite_p rfl ⟨vin (by decide), ?_⟩⟩))
  apply wp_X0_call_4_L6
  rw [show tbF 2001 ((nI 0 * 4) + nI 3).toNatClampNeg = nI 13 from by decide +kernel, nI_1]
  exact ite_p (by decide) (ite_n (by decide) (ite_p (by decide) ⟨vin (by decide +kernel), ite_n (by decide) (ite_p (nI_ltI' (b := 40) (by omega) (by decide) ho) h)⟩))
theorem call_4_3 {xs : gX} {d o : Nat} {M : Mem} {Q : Int32 → Mem → Prop} {x : Int32} (ho : o < 40) (h : MI xs d mX0_work [.ref 4, .int (nI 21), .int x, .int (nI (o + 1))] M Q) : MI xs (d + 1) mX0_call [.ref 4, .int (nI 4), .int (nI 3), .int x, .int (nI o)] M Q := by
  apply wp_X0_call_4
  apply wp_X0_call_4_L6
  rw [show tbF 2001 ((nI 4 * 4) + nI 3).toNatClampNeg = 0 from by decide +kernel, show tbF 2000 (nI 4).toNatClampNeg = nI 1 from by decide +kernel]
  refine ite_p (by decide) (ite_n (by decide) (ite_p (by decide) ⟨vin (by decide +kernel), ite_p rfl ⟨vin (by decide), ?_⟩⟩))
  apply wp_X0_call_4_L6
  rw [show tbF 2001 ((nI 1 * 4) + nI 3).toNatClampNeg = nI 21 from by decide +kernel, nI_1]
  exact ite_p (by decide) (ite_n (by decide) (ite_p (by decide) ⟨vin (by decide +kernel), ite_n (by decide) (ite_p (nI_ltI' (b := 40) (by omega) (by decide) ho) h)⟩))
theorem call_5_3 {xs : gX} {d o : Nat} {M : Mem} {Q : Int32 → Mem → Prop} {x : Int32} (ho : o < 40) (h : MI xs d mX0_work [.ref 4, .int (nI 21), .int x, .int (nI (o + 1))] M Q) : MI xs (d + 1) mX0_call [.ref 4, .int (nI 5), .int (nI 3), .int x, .int (nI o)] M Q := by
  apply wp_X0_call_4
  apply wp_X0_call_4_L6
  rw [show tbF 2001 ((nI 5 * 4) + nI 3).toNatClampNeg = 0 from by decide +kernel, show tbF 2000 (nI 5).toNatClampNeg = nI 1 from by decide +kernel]
  refine ite_p (by decide) (ite_n (by decide) (ite_p (by decide) ⟨vin (by decide +kernel), ite_p rfl ⟨vin (by decide), ?_⟩⟩))
  apply wp_X0_call_4_L6
  rw [show tbF 2001 ((nI 1 * 4) + nI 3).toNatClampNeg = nI 21 from by decide +kernel, nI_1]
  exact ite_p (by decide) (ite_n (by decide) (ite_p (by decide) ⟨vin (by decide +kernel), ite_n (by decide) (ite_p (nI_ltI' (b := 40) (by omega) (by decide) ho) h)⟩))
theorem call_6_3 {xs : gX} {d o : Nat} {M : Mem} {Q : Int32 → Mem → Prop} {x : Int32} (ho : o < 40) (h : MI xs d mX0_work [.ref 4, .int (nI 13), .int x, .int (nI (o + 1))] M Q) : MI xs (d + 1) mX0_call [.ref 4, .int (nI 6), .int (nI 3), .int x, .int (nI o)] M Q := by
  apply wp_X0_call_4
  apply wp_X0_call_4_L6
  rw [show tbF 2001 ((nI 6 * 4) + nI 3).toNatClampNeg = 0 from by decide +kernel, show tbF 2000 (nI 6).toNatClampNeg = nI 0 from by decide +kernel]
  refine ite_p (by decide) (ite_n (by decide) (ite_p (by decide) ⟨vin (by decide +kernel), ite_p rfl ⟨vin (by decide), ?_⟩⟩))
  apply wp_X0_call_4_L6
  rw [show tbF 2001 ((nI 0 * 4) + nI 3).toNatClampNeg = nI 13 from by decide +kernel, nI_1]
  exact ite_p (by decide) (ite_n (by decide) (ite_p (by decide) ⟨vin (by decide +kernel), ite_n (by decide) (ite_p (nI_ltI' (b := 40) (by omega) (by decide) ho) h)⟩))
theorem w10 {xs : gX} {d o : Nat} {M0 M1 : Mem} {Q : Int32 → Mem → Prop} {t K m pt : Nat} {L : List Nat} {x : Int32} (hc : CS M0 t K m pt L M1) (hl : L.length + 0 < 30) (hQ : ∀ M2, CS M0 t K m pt (dE0 t x L).2 M2 → Q (dE0 t x L).1 M2) : MI xs (d + 1) mX0_work [.ref 4, .int (nI 10), .int x, .int (nI o)] M1 Q := by
  obtain ⟨h1, h2, h3, h4, h5, h6, h7⟩ := id hc
  have hn := CS_note 10 hc
  apply wp_X0_work_4
  rw [h1, nn_at (n := L.length) (by omega), nI_1]
  refine ite_p (nI_ltI' (b := 30) (by omega) (by decide) (by omega)) ⟨vin_n (by omega) (by decide), (ite_p rfl ?_)⟩
  have hl2 := gL L 10
  rw [h4]
  exact hQ _ hn
theorem w20 {xs : gX} {d o : Nat} {M0 M1 : Mem} {Q : Int32 → Mem → Prop} {t K m pt : Nat} {L : List Nat} {x : Int32} (hc : CS M0 t K m pt L M1) (ho : o < 39) (hl : L.length + 1 < 30) (hQ : ∀ M2, CS M0 t K m pt (dE1 t x L).2 M2 → Q (dE1 t x L).1 M2) : MI xs (d + 3) mX0_work [.ref 4, .int (nI 20), .int x, .int (nI o)] M1 Q := by
  obtain ⟨h1, h2, h3, h4, h5, h6, h7⟩ := id hc
  have hn := CS_note 20 hc
  apply wp_X0_work_4
  rw [h1, nn_at (n := L.length) (by omega), nI_1]
  refine ite_p (nI_ltI' (b := 30) (by omega) (by decide) (by omega)) ⟨vin_n (by omega) (by decide), (ite_n (by decide) (ite_n (by decide) (ite_n (by decide) (ite_n (by decide) (ite_p rfl ?_)))))⟩
  have hl2 := gL L 20
  exact call_0_0 (by omega) (w10 hn (by omega) (fun M2 h2 => hQ M2 h2))
theorem w50 {xs : gX} {d o : Nat} {M0 M1 : Mem} {Q : Int32 → Mem → Prop} {t K m pt : Nat} {L : List Nat} {x : Int32} (hc : CS M0 t K m pt L M1) (ho : o < 38) (hl : L.length + 2 < 30) (hQ : ∀ M2, CS M0 t K m pt (dE4 t x L).2 M2 → Q (dE4 t x L).1 M2) : MI xs (d + 5) mX0_work [.ref 4, .int (nI 50), .int x, .int (nI o)] M1 Q := by
  obtain ⟨h1, h2, h3, h4, h5, h6, h7⟩ := id hc
  have hn := CS_note 50 hc
  apply wp_X0_work_4
  rw [h1, nn_at (n := L.length) (by omega), nI_1]
  refine ite_p (nI_ltI' (b := 30) (by omega) (by decide) (by omega)) ⟨vin_n (by omega) (by decide), (ite_n (by decide) (ite_n (by decide) (ite_n (by decide) (ite_n (by decide) (ite_n (by decide) (ite_n (by decide) (ite_n (by decide) (ite_n (by decide) (ite_p rfl ?_)))))))))⟩
  have hl2 := gL L 50
  exact call_1_0 (by omega) (w20 hn (by omega) (by omega) (fun M2 h2 => hQ M2 h2))
theorem w70 {xs : gX} {d o : Nat} {M0 M1 : Mem} {Q : Int32 → Mem → Prop} {t K m pt : Nat} {L : List Nat} {x : Int32} (hc : CS M0 t K m pt L M1) (hl : L.length + 0 < 30) (hQ : ∀ M2, CS M0 t K m pt (dE6 L).2 M2 → Q (dE6 L).1 M2) : MI xs (d + 1) mX0_work [.ref 4, .int (nI 70), .int x, .int (nI o)] M1 Q := by
  obtain ⟨h1, h2, h3, h4, h5, h6, h7⟩ := id hc
  have hn := CS_note 70 hc
  apply wp_X0_work_4
  rw [h1, nn_at (n := L.length) (by omega), nI_1]
  refine ite_p (nI_ltI' (b := 30) (by omega) (by decide) (by omega)) ⟨vin_n (by omega) (by decide), (ite_n (by decide) (ite_n (by decide) (ite_n (by decide) (ite_n (by decide) (ite_n (by decide) (ite_n (by decide) (ite_n (by decide) (ite_n (by decide) (ite_n (by decide) (ite_n (by decide) (ite_n (by decide) (ite_p rfl ?_))))))))))))⟩
  have hl2 := gL L 70
  exact hQ _ hn
theorem dC {xs : gX} {d o : Nat} {M0 M1 : Mem} {Q : Int32 → Mem → Prop} {t K m pt : Nat} {L : List Nat} {x : Int32} (hc : CS M0 t K m pt L M1) {k : Nat} (hk : k < 7) (ho : o < 37) (hl : L.length + 3 < 30) (hQ : ∀ M2, CS M0 t K m pt (dE t k x L).2 M2 → Q (dE t k x L).1 M2) : MI xs (d + 6) mX0_call [.ref 4, .int (nI k), .int (nI 0), .int x, .int (nI o)] M1 Q := by
  rcases (show k = 0 ∨ k = 1 ∨ k = 2 ∨ k = 3 ∨ k = 4 ∨ k = 5 ∨ k = 6 by omega) with rfl | rfl | rfl | rfl | rfl | rfl | rfl
  · exact call_0_0 (by omega) (w10 hc (by omega) hQ)
  · exact call_1_0 (by omega) (w20 hc (by omega) (by omega) hQ)
  · exact call_2_0 (by omega) (w10 hc (by omega) hQ)
  · exact call_3_0 (by omega) (w10 hc (by omega) hQ)
  · exact call_4_0 (by omega) (w50 hc (by omega) (by omega) hQ)
  · exact call_5_0 (by omega) (w20 hc (by omega) (by omega) hQ)
  · exact call_6_0 (by omega) (w70 hc (by omega) hQ)
theorem w11 {xs : gX} {d o : Nat} {M0 M1 : Mem} {Q : Int32 → Mem → Prop} {t K m pt : Nat} {L : List Nat} {x : Int32} (hc : CS M0 t K m pt L M1) (hK : K < 7) (ho : o < 37) (hl : L.length + 4 < 30) (hQ : ∀ M2, CS M0 t K m pt (aE0 t K x L).2 M2 → Q (aE0 t K x L).1 M2) : MI xs (d + 7) mX0_work [.ref 4, .int (nI 11), .int x, .int (nI o)] M1 Q := by
  obtain ⟨h1, h2, h3, h4, h5, h6, h7⟩ := id hc
  have hn := CS_note 11 hc
  apply wp_X0_work_4
  rw [h1, nn_at (n := L.length) (by omega), nI_1]
  refine ite_p (nI_ltI' (b := 30) (by omega) (by decide) (by omega)) ⟨vin_n (by omega) (by decide), (ite_n (by decide) (ite_p rfl ?_))⟩
  have hl2 := gL L 11
  rw [h5]
  exact dC hn hK (by omega) (by omega) (fun M2 h2 => hQ M2 h2)
theorem w30 {xs : gX} {d o : Nat} {M0 M1 : Mem} {Q : Int32 → Mem → Prop} {t K m pt : Nat} {L : List Nat} {x : Int32} (hc : CS M0 t K m pt L M1) (hK : K < 7) (ho : o < 36) (hl : L.length + 5 < 30) (hQ : ∀ M2, CS M0 t K m pt (aE2 t K x L).2 M2 → Q (aE2 t K x L).1 M2) : MI xs (d + 9) mX0_work [.ref 4, .int (nI 30), .int x, .int (nI o)] M1 Q := by
  obtain ⟨h1, h2, h3, h4, h5, h6, h7⟩ := id hc
  have hn := CS_note 30 hc
  apply wp_X0_work_4
  rw [h1, nn_at (n := L.length) (by omega), nI_1]
  refine ite_p (nI_ltI' (b := 30) (by omega) (by decide) (by omega)) ⟨vin_n (by omega) (by decide), (ite_n (by decide) (ite_n (by decide) (ite_n (by decide) (ite_n (by decide) (ite_n (by decide) (ite_n (by decide) (ite_p rfl ?_)))))))⟩
  have hl2 := gL L 30
  exact call_0_1 (by omega) (w11 hn hK (by omega) (by omega) (fun M2 h2 => hQ M2 h2))
theorem w60 {xs : gX} {d o : Nat} {M0 M1 : Mem} {Q : Int32 → Mem → Prop} {t K m pt : Nat} {L : List Nat} {x : Int32} (hc : CS M0 t K m pt L M1) (hK : K < 7) (ho : o < 36) (hl : L.length + 5 < 30) (hQ : ∀ M2, CS M0 t K m pt (aE5 t K x L).2 M2 → Q (aE5 t K x L).1 M2) : MI xs (d + 9) mX0_work [.ref 4, .int (nI 60), .int x, .int (nI o)] M1 Q := by
  obtain ⟨h1, h2, h3, h4, h5, h6, h7⟩ := id hc
  have hn := CS_note 60 hc
  apply wp_X0_work_4
  rw [h1, nn_at (n := L.length) (by omega), nI_1]
  refine ite_p (nI_ltI' (b := 30) (by omega) (by decide) (by omega)) ⟨vin_n (by omega) (by decide), (ite_n (by decide) (ite_n (by decide) (ite_n (by decide) (ite_n (by decide) (ite_n (by decide) (ite_n (by decide) (ite_n (by decide) (ite_n (by decide) (ite_n (by decide) (ite_n (by decide) (ite_p rfl ?_)))))))))))⟩
  have hl2 := gL L 60
  exact call_1_1 (by omega) (w11 hn hK (by omega) (by omega) (fun M2 h2 => hQ M2 h2))
theorem w71 {xs : gX} {d o : Nat} {M0 M1 : Mem} {Q : Int32 → Mem → Prop} {t K m pt : Nat} {L : List Nat} {x : Int32} (hc : CS M0 t K m pt L M1) (hK : K < 7) (ho : o < 36) (hl : L.length + 5 < 30) (hQ : ∀ M2, CS M0 t K m pt (aE6 t K m x L).2 M2 → Q (aE6 t K m x L).1 M2) : MI xs (d + 9) mX0_work [.ref 4, .int (nI 71), .int x, .int (nI o)] M1 Q := by
  obtain ⟨h1, h2, h3, h4, h5, h6, h7⟩ := id hc
  have hn := CS_note 71 hc
  apply wp_X0_work_4
  rw [h1, nn_at (n := L.length) (by omega), nI_1]
  refine ite_p (nI_ltI' (b := 30) (by omega) (by decide) (by omega)) ⟨vin_n (by omega) (by decide), (ite_n (by decide) (ite_n (by decide) (ite_n (by decide) (ite_n (by decide) (ite_n (by decide) (ite_n (by decide) (ite_n (by decide) (ite_n (by decide) (ite_n (by decide) (ite_n (by decide) (ite_n (by decide) (ite_n (by decide) (ite_p rfl ?_)))))))))))))⟩
  have hl2 := gL L 71
  refine call_0_1 (by omega) (w11 hn hK (by omega) (by omega) (fun M2 h2 => ?_))
  rw [h2.2.2.2.2.2.1]
  exact hQ M2 h2
theorem aC {xs : gX} {d o : Nat} {M0 M1 : Mem} {Q : Int32 → Mem → Prop} {t K m pt : Nat} {L : List Nat} {x : Int32} (hc : CS M0 t K m pt L M1) {k : Nat} (hk : k < 7) (hK : K < 7) (ho : o < 35) (hl : L.length + 5 < 30) (hQ : ∀ M2, CS M0 t K m pt (aE t K m k x L).2 M2 → Q (aE t K m k x L).1 M2) : MI xs (d + 10) mX0_call [.ref 4, .int (nI k), .int (nI 1), .int x, .int (nI o)] M1 Q := by
  rcases (show k = 0 ∨ k = 1 ∨ k = 2 ∨ k = 3 ∨ k = 4 ∨ k = 5 ∨ k = 6 by omega) with rfl | rfl | rfl | rfl | rfl | rfl | rfl
  · exact call_0_1 (by omega) (w11 hc hK (by omega) (by omega) hQ)
  · exact call_1_1 (by omega) (w11 hc hK (by omega) (by omega) hQ)
  · exact call_2_1 (by omega) (w30 hc hK (by omega) (by omega) hQ)
  · exact call_3_1 (by omega) (w11 hc hK (by omega) (by omega) hQ)
  · exact call_4_1 (by omega) (w11 hc hK (by omega) (by omega) hQ)
  · exact call_5_1 (by omega) (w60 hc hK (by omega) (by omega) hQ)
  · exact call_6_1 (by omega) (w71 hc hK (by omega) (by omega) hQ)
theorem w12 {xs : gX} {d o : Nat} {M0 M1 : Mem} {Q : Int32 → Mem → Prop} {t K m pt : Nat} {L : List Nat} {x : Int32} (hc : CS M0 t K m pt L M1) (hK : K < 7) (ho : o < 35) (hl : L.length + 6 < 30) (hQ : ∀ M2, CS M0 t K m pt (uE0 t K m x L).2 M2 → Q (uE0 t K m x L).1 M2) : MI xs (d + 11) mX0_work [.ref 4, .int (nI 12), .int x, .int (nI o)] M1 Q := by
  obtain ⟨h1, h2, h3, h4, h5, h6, h7⟩ := id hc
  have hn := CS_note 12 hc
  apply wp_X0_work_4
  rw [h1, nn_at (n := L.length) (by omega), nI_1]
  refine ite_p (nI_ltI' (b := 30) (by omega) (by decide) (by omega)) ⟨vin_n (by omega) (by decide), (ite_n (by decide) (ite_n (by decide) (ite_p rfl ?_)))⟩
  have hl2 := gL L 12
  rw [h5]
  refine aC hn hK hK (by omega) (by omega) (fun M2 h2 => ?_)
  rw [h2.2.2.2.2.2.1]
  exact hQ M2 h2
theorem w40 {xs : gX} {d o : Nat} {M0 M1 : Mem} {Q : Int32 → Mem → Prop} {t K m pt : Nat} {L : List Nat} {x : Int32} (hc : CS M0 t K m pt L M1) (hK : K < 7) (ho : o < 34) (hl : L.length + 7 < 30) (hQ : ∀ M2, CS M0 t K m pt (uE3 t K m x L).2 M2 → Q (uE3 t K m x L).1 M2) : MI xs (d + 13) mX0_work [.ref 4, .int (nI 40), .int x, .int (nI o)] M1 Q := by
  obtain ⟨h1, h2, h3, h4, h5, h6, h7⟩ := id hc
  have hn := CS_note 40 hc
  apply wp_X0_work_4
  rw [h1, nn_at (n := L.length) (by omega), nI_1]
  refine ite_p (nI_ltI' (b := 30) (by omega) (by decide) (by omega)) ⟨vin_n (by omega) (by decide), (ite_n (by decide) (ite_n (by decide) (ite_n (by decide) (ite_n (by decide) (ite_n (by decide) (ite_n (by decide) (ite_n (by decide) (ite_p rfl ?_))))))))⟩
  have hl2 := gL L 40
  exact call_0_2 (by omega) (w12 hn hK (by omega) (by omega) (fun M2 h2 => hQ M2 h2))
theorem w51 {xs : gX} {d o : Nat} {M0 M1 : Mem} {Q : Int32 → Mem → Prop} {t K m pt : Nat} {L : List Nat} {x : Int32} (hc : CS M0 t K m pt L M1) (hK : K < 7) (ho : o < 34) (hl : L.length + 7 < 30) (hQ : ∀ M2, CS M0 t K m pt (uE4 t K m x L).2 M2 → Q (uE4 t K m x L).1 M2) : MI xs (d + 13) mX0_work [.ref 4, .int (nI 51), .int x, .int (nI o)] M1 Q := by
  obtain ⟨h1, h2, h3, h4, h5, h6, h7⟩ := id hc
  have hn := CS_note 51 hc
  apply wp_X0_work_4
  rw [h1, nn_at (n := L.length) (by omega), nI_1]
  refine ite_p (nI_ltI' (b := 30) (by omega) (by decide) (by omega)) ⟨vin_n (by omega) (by decide), (ite_n (by decide) (ite_n (by decide) (ite_n (by decide) (ite_n (by decide) (ite_n (by decide) (ite_n (by decide) (ite_n (by decide) (ite_n (by decide) (ite_n (by decide) (ite_p rfl ?_))))))))))⟩
  have hl2 := gL L 51
  refine call_1_2 (by omega) (w12 hn hK (by omega) (by omega) (fun M2 h2 => ?_))
  rw [h2.2.2.2.1]
  exact hQ M2 h2
theorem uC {xs : gX} {d o : Nat} {M0 M1 : Mem} {Q : Int32 → Mem → Prop} {t K m pt : Nat} {L : List Nat} {x : Int32} (hc : CS M0 t K m pt L M1) {k : Nat} (hk : k < 7) (hK : K < 7) (ho : o < 33) (hl : L.length + 7 < 30) (hQ : ∀ M2, CS M0 t K m pt (uE t K m k x L).2 M2 → Q (uE t K m k x L).1 M2) : MI xs (d + 14) mX0_call [.ref 4, .int (nI k), .int (nI 2), .int x, .int (nI o)] M1 Q := by
  rcases (show k = 0 ∨ k = 1 ∨ k = 2 ∨ k = 3 ∨ k = 4 ∨ k = 5 ∨ k = 6 by omega) with rfl | rfl | rfl | rfl | rfl | rfl | rfl
  · exact call_0_2 (by omega) (w12 hc hK (by omega) (by omega) hQ)
  · exact call_1_2 (by omega) (w12 hc hK (by omega) (by omega) hQ)
  · exact call_2_2 (by omega) (w12 hc hK (by omega) (by omega) hQ)
  · exact call_3_2 (by omega) (w40 hc hK (by omega) (by omega) hQ)
  · exact call_4_2 (by omega) (w51 hc hK (by omega) (by omega) hQ)
  · exact call_5_2 (by omega) (w12 hc hK (by omega) (by omega) hQ)
  · exact call_6_2 (by omega) (w12 hc hK (by omega) (by omega) hQ)
theorem by0 {t m : Nat} (ht : t < 10) (hm : m < 10) : nI m - nI t = 0 ↔ m = t := by
  have e := pk_sub_toInt (a := m) (b := t) (by omega) (by omega)
  constructor
  · intro h
    rw [h] at e
    have : (0 : Int32).toInt = 0 := by decide
    omega
  · intro h
    rw [h]
    exact pk_sub (a := t) (b := t) (Nat.le_refl _) |>.trans (by rw [Nat.sub_self]; rfl)
theorem CS_pt {M0 M1 : Mem} {t K m pt : Nat} {L : List Nat} (h : CS M0 t K m pt L M1) : CS M0 t K m 1 L (mw M1 4 2 1) := by
  obtain ⟨h1, h2, h3, h4, h5, h6, h7⟩ := h
  have e4 : (mw M1 4 2 1).1 4 = upd (M1.1 4) 2 1 := by rw [mw_at]
  have e63 : (mw M1 4 2 1).1 63 = M1.1 63 := by rw [mw_ne _ _ _ (by decide)]
  unfold CS
  rw [e4, e63, upd_at, upd_ne _ _ (by decide), upd_ne _ _ (by decide), upd_ne _ _ (by decide), upd_ne _ _ (by decide)]
  exact ⟨h1, h2, rfl, h4, h5, h6, fun k g1 g2 => by rw [mw_ne _ _ _ g1]; exact h7 k g1 g2⟩
theorem w13 {xs : gX} {d o : Nat} {M0 M1 : Mem} {Q : Int32 → Mem → Prop} {t K m : Nat} {L : List Nat} {x : Int32} (hc : CS M0 t K m 0 L M1) (ht : t < 10) (hm : m < 10) (hl : L.length + 0 < 30) (hQ : ∀ M2, CS M0 t K m (ptd t m) (pE0 t m x L).2 M2 → Q (pE0 t m x L).1 M2) : MI xs (d + 1) mX0_work [.ref 4, .int (nI 13), .int x, .int (nI o)] M1 Q := by
  obtain ⟨h1, h2, h3, h4, h5, h6, h7⟩ := id hc
  have hn := CS_note 13 hc
  apply wp_X0_work_4
  rw [h1, nn_at (n := L.length) (by omega), nI_1]
  have hl2 := gL L 13
  rw [h4, h6]
  refine ite_p (nI_ltI' (b := 30) (by omega) (by decide) (by omega)) ⟨vin_n (by omega) (by decide), (ite_n (by decide) (ite_n (by decide) (ite_n (by decide) (ite_p rfl ?_))))⟩
  unfold ptd pE0 at hQ
  by_cases q : m = t
  · rw [if_pos q, if_pos q] at hQ
    exact ite_p ((by0 ht hm).mpr q) (hQ _ (CS_pt hn))
  · rw [if_neg q, if_neg q] at hQ
    have q2 : ¬ nI m - nI t = 0 := fun e => q ((by0 ht hm).mp e)
    exact ite_n q2 ⟨q2, hQ _ hn⟩
theorem w21 {xs : gX} {d o : Nat} {M0 M1 : Mem} {Q : Int32 → Mem → Prop} {t K m : Nat} {L : List Nat} {x : Int32} (hc : CS M0 t K m 0 L M1) (ht : t < 10) (hm : m < 10) (hK : K < 7) (ho : o < 35) (hl : L.length + 7 < 30) (hQ : ∀ M2, CS M0 t K m (ptd t m) (pE1 t K m x L).2 M2 → Q (pE1 t K m x L).1 M2) : MI xs (d + 12) mX0_work [.ref 4, .int (nI 21), .int x, .int (nI o)] M1 Q := by
  obtain ⟨h1, h2, h3, h4, h5, h6, h7⟩ := id hc
  have hn := CS_note 21 hc
  apply wp_X0_work_4
  rw [h1, nn_at (n := L.length) (by omega), nI_1]
  have hl2 := gL L 21
  refine ite_p (nI_ltI' (b := 30) (by omega) (by decide) (by omega)) ⟨vin_n (by omega) (by decide), (ite_n (by decide) (ite_n (by decide) (ite_n (by decide) (ite_n (by decide) (ite_n (by decide) (ite_p rfl ?_))))))⟩
  apply wp_X0_partAndAge_4
  refine call_0_3 (by omega) (w13 hn ht hm (by omega) (fun M2 h2 => ?_))
  obtain ⟨g1, g2, g3, g4, g5, g6, g7⟩ := id h2
  rw [g3, g5]
  have e2 : (pE0 t m x (L ++ [21])).2.length = L.length + 2 := by rw [show (pE0 t m x (L ++ [21])).2 = (L ++ [21]) ++ [13] from rfl, gL, gL]
  unfold pE1 at hQ
  by_cases q : m = t
  · rw [if_pos q] at hQ
    exact ite_n (by rw [ptd, if_pos q]; decide) (hQ M2 h2)
  · rw [if_neg q] at hQ
    exact ite_p (by rw [ptd, if_neg q]; rfl) (aC h2 hK hK (by omega) (by omega) (fun M3 h3 => hQ M3 h3))
theorem pC {xs : gX} {d o : Nat} {M0 M1 : Mem} {Q : Int32 → Mem → Prop} {t K m : Nat} {L : List Nat} {x : Int32} (hc : CS M0 t K m 0 L M1) {k : Nat} (hk : k < 7) (ht : t < 10) (hm : m < 10) (hK : K < 7) (ho : o < 34) (hl : L.length + 8 < 30) (hQ : ∀ M2, CS M0 t K m (ptd t m) (pE t K m k x L).2 M2 → Q (pE t K m k x L).1 M2) : MI xs (d + 14) mX0_call [.ref 4, .int (nI k), .int (nI 3), .int x, .int (nI o)] M1 Q := by
  rcases (show k = 0 ∨ k = 1 ∨ k = 2 ∨ k = 3 ∨ k = 4 ∨ k = 5 ∨ k = 6 by omega) with rfl | rfl | rfl | rfl | rfl | rfl | rfl
  · exact call_0_3 (by omega) (w13 hc ht hm (by omega) hQ)
  · exact call_1_3 (by omega) (w21 hc ht hm hK (by omega) (by omega) hQ)
  · exact call_2_3 (by omega) (w13 hc ht hm (by omega) hQ)
  · exact call_3_3 (by omega) (w13 hc ht hm (by omega) hQ)
  · exact call_4_3 (by omega) (w21 hc ht hm hK (by omega) (by omega) hQ)
  · exact call_5_3 (by omega) (w21 hc ht hm hK (by omega) (by omega) hQ)
  · exact call_6_3 (by omega) (w13 hc ht hm (by omega) hQ)
/-- the reference's voice -/
def RS (M0 : Mem) (t pt : Nat) (L : List Nat) (M1 : Mem) : Prop := M1.1 64 18 = nI L.length ∧ (∀ i, i < L.length → M1.1 77 i = nI (L.getD i 0)) ∧ M1.1 64 19 = nI t ∧ M1.1 64 20 = nI pt ∧ M1.1 64 2 = M0.1 64 2 ∧ ∀ k, k ≠ 64 → k ≠ 77 → M1.1 k = M0.1 k
theorem RS_note {M0 M1 : Mem} {t pt : Nat} {L : List Nat} (b : Nat) (h : RS M0 t pt L M1) : RS M0 t pt (L ++ [b]) (mw (mw M1 77 L.length (nI b)) 64 18 (nI (L.length + 1))) := by
  obtain ⟨h1, h2, h3, h4, h5, h7⟩ := h
  have e4 : (mw (mw M1 77 L.length (nI b)) 64 18 (nI (L.length + 1))).1 64 = upd (M1.1 64) 18 (nI (L.length + 1)) := by rw [mw_at, mw_ne _ _ _ (by decide)]
  have e63 : (mw (mw M1 77 L.length (nI b)) 64 18 (nI (L.length + 1))).1 77 = upd (M1.1 77) L.length (nI b) := by rw [mw_ne _ _ _ (by decide), mw_at]
  unfold RS
  rw [e4, e63, gL, upd_at, upd_ne _ _ (by decide), upd_ne _ _ (by decide), upd_ne _ _ (by decide)]
  refine ⟨rfl, fun i hi => ?_, h3, h4, h5, fun k g1 g2 => by rw [mw_ne _ _ _ g1, mw_ne _ _ _ g2]; exact h7 k g1 g2⟩
  by_cases e : i = L.length
  · subst e; rw [upd_at, gB]
  · rw [upd_ne _ _ e, gA L b i (by omega)]; exact h2 i (by omega)
theorem RS_pt {M0 M1 : Mem} {t pt : Nat} {L : List Nat} (q : Nat) (h : RS M0 t pt L M1) : RS M0 t q L (mw M1 64 20 (nI q)) := by
  obtain ⟨h1, h2, h3, h4, h5, h7⟩ := h
  have e4 : (mw M1 64 20 (nI q)).1 64 = upd (M1.1 64) 20 (nI q) := by rw [mw_at]
  have e63 : (mw M1 64 20 (nI q)).1 77 = M1.1 77 := by rw [mw_ne _ _ _ (by decide)]
  unfold RS
  rw [e4, e63, upd_at, upd_ne _ _ (by decide), upd_ne _ _ (by decide), upd_ne _ _ (by decide)]
  exact ⟨h1, h2, h3, rfl, h5, fun k g1 g2 => by rw [mw_ne _ _ _ g1]; exact h7 k g1 g2⟩
theorem rD0 {xs : gX} {d : Nat} {M0 M1 : Mem} {Q : Int32 → Mem → Prop} {t pt : Nat} {L : List Nat} {x : Int32} (hc : RS M0 t pt L M1) (hl : L.length + 0 < 30) (hQ : ∀ M2, RS M0 t pt (dE0 t x L).2 M2 → Q (dE0 t x L).1 M2) : MI xs (d + 1) mX9_datesBy [.ref 64, .int (nI 0), .int x] M1 Q := by
  obtain ⟨h1, h2, h3, h4, h5, h7⟩ := id hc
  apply wp_X9_datesBy_64
  have hn := RS_note 10 hc
  have hl2 := gL L 10
  rw [h1, nn_at (n := L.length) (by omega), nI_1]
  rw [h3]
  exact (ite_p rfl (ite_p (nI_ltI' (b := 30) (by omega) (by decide) (by omega)) ⟨vin_n (by omega) (by decide), hQ _ hn⟩))
theorem rD1 {xs : gX} {d : Nat} {M0 M1 : Mem} {Q : Int32 → Mem → Prop} {t pt : Nat} {L : List Nat} {x : Int32} (hc : RS M0 t pt L M1) (hl : L.length + 1 < 30) (hQ : ∀ M2, RS M0 t pt (dE1 t x L).2 M2 → Q (dE1 t x L).1 M2) : MI xs (d + 2) mX9_datesBy [.ref 64, .int (nI 1), .int x] M1 Q := by
  obtain ⟨h1, h2, h3, h4, h5, h7⟩ := id hc
  apply wp_X9_datesBy_64
  have hn := RS_note 20 hc
  have hl2 := gL L 20
  rw [h1, nn_at (n := L.length) (by omega), nI_1]
  exact (ite_n (by decide) (ite_p rfl (ite_p (nI_ltI' (b := 30) (by omega) (by decide) (by omega)) ⟨vin_n (by omega) (by decide), rD0 hn (by omega) (fun M2 h2 => hQ M2 h2)⟩)))
theorem rD2 {xs : gX} {d : Nat} {M0 M1 : Mem} {Q : Int32 → Mem → Prop} {t pt : Nat} {L : List Nat} {x : Int32} (hc : RS M0 t pt L M1) (hl : L.length + 1 < 30) (hQ : ∀ M2, RS M0 t pt (dE0 t x L).2 M2 → Q (dE0 t x L).1 M2) : MI xs (d + 2) mX9_datesBy [.ref 64, .int (nI 2), .int x] M1 Q := by
  obtain ⟨h1, h2, h3, h4, h5, h7⟩ := id hc
  apply wp_X9_datesBy_64
  exact (ite_n (by decide) (ite_n (by decide) (ite_p rfl (ite_n (by decide) (ite_n (by decide) (rD0 hc (by omega) hQ))))))
theorem rD3 {xs : gX} {d : Nat} {M0 M1 : Mem} {Q : Int32 → Mem → Prop} {t pt : Nat} {L : List Nat} {x : Int32} (hc : RS M0 t pt L M1) (hl : L.length + 1 < 30) (hQ : ∀ M2, RS M0 t pt (dE0 t x L).2 M2 → Q (dE0 t x L).1 M2) : MI xs (d + 2) mX9_datesBy [.ref 64, .int (nI 3), .int x] M1 Q := by
  obtain ⟨h1, h2, h3, h4, h5, h7⟩ := id hc
  apply wp_X9_datesBy_64
  exact (ite_n (by decide) (ite_n (by decide) (ite_n (by decide) (ite_p rfl (ite_n (by decide) (ite_n (by decide) (rD0 hc (by omega) hQ)))))))
theorem rD4 {xs : gX} {d : Nat} {M0 M1 : Mem} {Q : Int32 → Mem → Prop} {t pt : Nat} {L : List Nat} {x : Int32} (hc : RS M0 t pt L M1) (hl : L.length + 2 < 30) (hQ : ∀ M2, RS M0 t pt (dE4 t x L).2 M2 → Q (dE4 t x L).1 M2) : MI xs (d + 3) mX9_datesBy [.ref 64, .int (nI 4), .int x] M1 Q := by
  obtain ⟨h1, h2, h3, h4, h5, h7⟩ := id hc
  apply wp_X9_datesBy_64
  have hn := RS_note 50 hc
  have hl2 := gL L 50
  rw [h1, nn_at (n := L.length) (by omega), nI_1]
  exact (ite_n (by decide) (ite_n (by decide) (ite_n (by decide) (ite_n (by decide) (ite_p rfl (ite_p (nI_ltI' (b := 30) (by omega) (by decide) (by omega)) ⟨vin_n (by omega) (by decide), rD1 hn (by omega) (fun M2 h2 => hQ M2 h2)⟩))))))
theorem rD5 {xs : gX} {d : Nat} {M0 M1 : Mem} {Q : Int32 → Mem → Prop} {t pt : Nat} {L : List Nat} {x : Int32} (hc : RS M0 t pt L M1) (hl : L.length + 2 < 30) (hQ : ∀ M2, RS M0 t pt (dE1 t x L).2 M2 → Q (dE1 t x L).1 M2) : MI xs (d + 3) mX9_datesBy [.ref 64, .int (nI 5), .int x] M1 Q := by
  obtain ⟨h1, h2, h3, h4, h5, h7⟩ := id hc
  apply wp_X9_datesBy_64
  exact (ite_n (by decide) (ite_n (by decide) (ite_n (by decide) (ite_n (by decide) (ite_n (by decide) (ite_p rfl (rD1 hc (by omega) hQ)))))))
theorem rD6 {xs : gX} {d : Nat} {M0 M1 : Mem} {Q : Int32 → Mem → Prop} {t pt : Nat} {L : List Nat} {x : Int32} (hc : RS M0 t pt L M1) (hl : L.length + 0 < 30) (hQ : ∀ M2, RS M0 t pt (dE6 L).2 M2 → Q (dE6 L).1 M2) : MI xs (d + 1) mX9_datesBy [.ref 64, .int (nI 6), .int x] M1 Q := by
  obtain ⟨h1, h2, h3, h4, h5, h7⟩ := id hc
  apply wp_X9_datesBy_64
  have hn := RS_note 70 hc
  have hl2 := gL L 70
  rw [h1, nn_at (n := L.length) (by omega), nI_1]
  exact (ite_n (by decide) (ite_n (by decide) (ite_n (by decide) (ite_n (by decide) (ite_n (by decide) (ite_n (by decide) (ite_p rfl (ite_p (nI_ltI' (b := 30) (by omega) (by decide) (by omega)) ⟨vin_n (by omega) (by decide), hQ _ hn⟩))))))))
theorem rD {xs : gX} {d : Nat} {M0 M1 : Mem} {Q : Int32 → Mem → Prop} {t pt : Nat} {L : List Nat} {x : Int32} (hc : RS M0 t pt L M1) {k : Nat} (hk : k < 7) (hl : L.length + 3 < 30) (hQ : ∀ M2, RS M0 t pt (dE t k x L).2 M2 → Q (dE t k x L).1 M2) : MI xs (d + 3) mX9_datesBy [.ref 64, .int (nI k), .int x] M1 Q := by
  rcases (show k = 0 ∨ k = 1 ∨ k = 2 ∨ k = 3 ∨ k = 4 ∨ k = 5 ∨ k = 6 by omega) with rfl | rfl | rfl | rfl | rfl | rfl | rfl
  · exact rD0 hc (by omega) hQ
  · exact rD1 hc (by omega) hQ
  · exact rD2 hc (by omega) hQ
  · exact rD3 hc (by omega) hQ
  · exact rD4 hc (by omega) hQ
  · exact rD5 hc (by omega) hQ
  · exact rD6 hc (by omega) hQ
theorem rA0 {xs : gX} {d : Nat} {M0 M1 : Mem} {Q : Int32 → Mem → Prop} {t pt K m : Nat} {L : List Nat} {x : Int32} (hc : RS M0 t pt L M1) (ht : t < 10) (w0 : M0.1 65 (28 + 4 * t + 0) = nI K) (w1 : M0.1 65 (28 + 4 * t + 1) = nI m) (hK : K < 7) (hl : L.length + 4 < 30) (hQ : ∀ M2, RS M0 t pt (aE0 t K x L).2 M2 → Q (aE0 t K x L).1 M2) : MI xs (d + 4) mX9_agesBy [.ref 64, .int (nI 0), .int x] M1 Q := by
  obtain ⟨h1, h2, h3, h4, h5, h7⟩ := id hc
  apply wp_X9_agesBy_64
  have hn := RS_note 11 hc
  have hl2 := gL L 11
  rw [h1, nn_at (n := L.length) (by omega), nI_1]
  rw [h3, show (28 + (4 * nI t)) + 0 = nI (28 + 4 * t + 0) from zT t 0, nn_at (n := 28 + 4 * t + 0) (by omega), h7 65 (by decide) (by decide), w0]
  exact (ite_p rfl (ite_p (nI_ltI' (b := 30) (by omega) (by decide) (by omega)) ⟨vin_n (by omega) (by decide), ⟨vin_n (by omega) (by decide), rD hn hK (by omega) (fun M2 h2 => hQ M2 h2)⟩⟩))
theorem rA1 {xs : gX} {d : Nat} {M0 M1 : Mem} {Q : Int32 → Mem → Prop} {t pt K m : Nat} {L : List Nat} {x : Int32} (hc : RS M0 t pt L M1) (ht : t < 10) (w0 : M0.1 65 (28 + 4 * t + 0) = nI K) (w1 : M0.1 65 (28 + 4 * t + 1) = nI m) (hK : K < 7) (hl : L.length + 5 < 30) (hQ : ∀ M2, RS M0 t pt (aE0 t K x L).2 M2 → Q (aE0 t K x L).1 M2) : MI xs (d + 5) mX9_agesBy [.ref 64, .int (nI 1), .int x] M1 Q := by
  obtain ⟨h1, h2, h3, h4, h5, h7⟩ := id hc
  apply wp_X9_agesBy_64
  exact (ite_n (by decide) (ite_p rfl (ite_n (by decide) (ite_n (by decide) (rA0 hc ht w0 w1 hK (by omega) hQ)))))
theorem rA2 {xs : gX} {d : Nat} {M0 M1 : Mem} {Q : Int32 → Mem → Prop} {t pt K m : Nat} {L : List Nat} {x : Int32} (hc : RS M0 t pt L M1) (ht : t < 10) (w0 : M0.1 65 (28 + 4 * t + 0) = nI K) (w1 : M0.1 65 (28 + 4 * t + 1) = nI m) (hK : K < 7) (hl : L.length + 5 < 30) (hQ : ∀ M2, RS M0 t pt (aE2 t K x L).2 M2 → Q (aE2 t K x L).1 M2) : MI xs (d + 5) mX9_agesBy [.ref 64, .int (nI 2), .int x] M1 Q := by
  obtain ⟨h1, h2, h3, h4, h5, h7⟩ := id hc
  apply wp_X9_agesBy_64
  have hn := RS_note 30 hc
  have hl2 := gL L 30
  rw [h1, nn_at (n := L.length) (by omega), nI_1]
  exact (ite_n (by decide) (ite_n (by decide) (ite_p rfl (ite_p (nI_ltI' (b := 30) (by omega) (by decide) (by omega)) ⟨vin_n (by omega) (by decide), rA0 hn ht w0 w1 hK (by omega) (fun M2 h2 => hQ M2 h2)⟩))))
theorem rA3 {xs : gX} {d : Nat} {M0 M1 : Mem} {Q : Int32 → Mem → Prop} {t pt K m : Nat} {L : List Nat} {x : Int32} (hc : RS M0 t pt L M1) (ht : t < 10) (w0 : M0.1 65 (28 + 4 * t + 0) = nI K) (w1 : M0.1 65 (28 + 4 * t + 1) = nI m) (hK : K < 7) (hl : L.length + 5 < 30) (hQ : ∀ M2, RS M0 t pt (aE0 t K x L).2 M2 → Q (aE0 t K x L).1 M2) : MI xs (d + 5) mX9_agesBy [.ref 64, .int (nI 3), .int x] M1 Q := by
  obtain ⟨h1, h2, h3, h4, h5, h7⟩ := id hc
  apply wp_X9_agesBy_64
  exact (ite_n (by decide) (ite_n (by decide) (ite_n (by decide) (ite_p rfl (ite_n (by decide) (ite_n (by decide) (rA0 hc ht w0 w1 hK (by omega) hQ)))))))
theorem rA4 {xs : gX} {d : Nat} {M0 M1 : Mem} {Q : Int32 → Mem → Prop} {t pt K m : Nat} {L : List Nat} {x : Int32} (hc : RS M0 t pt L M1) (ht : t < 10) (w0 : M0.1 65 (28 + 4 * t + 0) = nI K) (w1 : M0.1 65 (28 + 4 * t + 1) = nI m) (hK : K < 7) (hl : L.length + 5 < 30) (hQ : ∀ M2, RS M0 t pt (aE0 t K x L).2 M2 → Q (aE0 t K x L).1 M2) : MI xs (d + 6) mX9_agesBy [.ref 64, .int (nI 4), .int x] M1 Q := by
  obtain ⟨h1, h2, h3, h4, h5, h7⟩ := id hc
  apply wp_X9_agesBy_64
  exact (ite_n (by decide) (ite_n (by decide) (ite_n (by decide) (ite_n (by decide) (ite_p rfl (rA1 hc ht w0 w1 hK (by omega) hQ))))))
theorem rA5 {xs : gX} {d : Nat} {M0 M1 : Mem} {Q : Int32 → Mem → Prop} {t pt K m : Nat} {L : List Nat} {x : Int32} (hc : RS M0 t pt L M1) (ht : t < 10) (w0 : M0.1 65 (28 + 4 * t + 0) = nI K) (w1 : M0.1 65 (28 + 4 * t + 1) = nI m) (hK : K < 7) (hl : L.length + 6 < 30) (hQ : ∀ M2, RS M0 t pt (aE5 t K x L).2 M2 → Q (aE5 t K x L).1 M2) : MI xs (d + 6) mX9_agesBy [.ref 64, .int (nI 5), .int x] M1 Q := by
  obtain ⟨h1, h2, h3, h4, h5, h7⟩ := id hc
  apply wp_X9_agesBy_64
  have hn := RS_note 60 hc
  have hl2 := gL L 60
  rw [h1, nn_at (n := L.length) (by omega), nI_1]
  exact (ite_n (by decide) (ite_n (by decide) (ite_n (by decide) (ite_n (by decide) (ite_n (by decide) (ite_p rfl (ite_p (nI_ltI' (b := 30) (by omega) (by decide) (by omega)) ⟨vin_n (by omega) (by decide), rA1 hn ht w0 w1 hK (by omega) (fun M2 h2 => hQ M2 h2)⟩)))))))
theorem rA6 {xs : gX} {d : Nat} {M0 M1 : Mem} {Q : Int32 → Mem → Prop} {t pt K m : Nat} {L : List Nat} {x : Int32} (hc : RS M0 t pt L M1) (ht : t < 10) (w0 : M0.1 65 (28 + 4 * t + 0) = nI K) (w1 : M0.1 65 (28 + 4 * t + 1) = nI m) (hK : K < 7) (hl : L.length + 5 < 30) (hQ : ∀ M2, RS M0 t pt (aE6 t K m x L).2 M2 → Q (aE6 t K m x L).1 M2) : MI xs (d + 5) mX9_agesBy [.ref 64, .int (nI 6), .int x] M1 Q := by
  obtain ⟨h1, h2, h3, h4, h5, h7⟩ := id hc
  apply wp_X9_agesBy_64
  have hn := RS_note 71 hc
  have hl2 := gL L 71
  rw [h1, nn_at (n := L.length) (by omega), nI_1]
  refine (ite_n (by decide) (ite_n (by decide) (ite_n (by decide) (ite_n (by decide) (ite_n (by decide) (ite_n (by decide) (ite_p rfl (ite_p (nI_ltI' (b := 30) (by omega) (by decide) (by omega)) ⟨vin_n (by omega) (by decide), rA0 hn ht w0 w1 hK (by omega) (fun M2 h2 => ?_)⟩))))))))
  rw [h2.2.2.1, show (28 + (4 * nI t)) + 1 = nI (28 + 4 * t + 1) from zT t 1, nn_at (n := 28 + 4 * t + 1) (by omega), h2.2.2.2.2.2 65 (by decide) (by decide), w1]
  exact ⟨vin_n (by omega) (by decide), hQ M2 h2⟩
theorem rA {xs : gX} {d : Nat} {M0 M1 : Mem} {Q : Int32 → Mem → Prop} {t pt K m : Nat} {L : List Nat} {x : Int32} (hc : RS M0 t pt L M1) (ht : t < 10) (w0 : M0.1 65 (28 + 4 * t + 0) = nI K) (w1 : M0.1 65 (28 + 4 * t + 1) = nI m) {k : Nat} (hk : k < 7) (hK : K < 7) (hl : L.length + 6 < 30) (hQ : ∀ M2, RS M0 t pt (aE t K m k x L).2 M2 → Q (aE t K m k x L).1 M2) : MI xs (d + 6) mX9_agesBy [.ref 64, .int (nI k), .int x] M1 Q := by
  rcases (show k = 0 ∨ k = 1 ∨ k = 2 ∨ k = 3 ∨ k = 4 ∨ k = 5 ∨ k = 6 by omega) with rfl | rfl | rfl | rfl | rfl | rfl | rfl
  · exact rA0 hc ht w0 w1 hK (by omega) hQ
  · exact rA1 hc ht w0 w1 hK (by omega) hQ
  · exact rA2 hc ht w0 w1 hK (by omega) hQ
  · exact rA3 hc ht w0 w1 hK (by omega) hQ
  · exact rA4 hc ht w0 w1 hK (by omega) hQ
  · exact rA5 hc ht w0 w1 hK (by omega) hQ
  · exact rA6 hc ht w0 w1 hK (by omega) hQ
theorem rU0 {xs : gX} {d : Nat} {M0 M1 : Mem} {Q : Int32 → Mem → Prop} {t pt K m : Nat} {L : List Nat} {x : Int32} (hc : RS M0 t pt L M1) (ht : t < 10) (w0 : M0.1 65 (28 + 4 * t + 0) = nI K) (w1 : M0.1 65 (28 + 4 * t + 1) = nI m) (hK : K < 7) (hl : L.length + 7 < 30) (hQ : ∀ M2, RS M0 t pt (uE0 t K m x L).2 M2 → Q (uE0 t K m x L).1 M2) : MI xs (d + 7) mX9_duesBy [.ref 64, .int (nI 0), .int x] M1 Q := by
  obtain ⟨h1, h2, h3, h4, h5, h7⟩ := id hc
  apply wp_X9_duesBy_64
  have hn := RS_note 12 hc
  have hl2 := gL L 12
  rw [h1, nn_at (n := L.length) (by omega), nI_1]
  rw [h3, show (28 + (4 * nI t)) + 0 = nI (28 + 4 * t + 0) from zT t 0, nn_at (n := 28 + 4 * t + 0) (by omega), h7 65 (by decide) (by decide), w0]
  refine (ite_p rfl (ite_p (nI_ltI' (b := 30) (by omega) (by decide) (by omega)) ⟨vin_n (by omega) (by decide), ⟨vin_n (by omega) (by decide), rA hn ht w0 w1 hK hK (by omega) (fun M2 h2 => ?_)⟩⟩))
  rw [h2.2.2.1, show (28 + (4 * nI t)) + 1 = nI (28 + 4 * t + 1) from zT t 1, nn_at (n := 28 + 4 * t + 1) (by omega), h2.2.2.2.2.2 65 (by decide) (by decide), w1]
  exact ⟨vin_n (by omega) (by decide), hQ M2 h2⟩
theorem rU1 {xs : gX} {d : Nat} {M0 M1 : Mem} {Q : Int32 → Mem → Prop} {t pt K m : Nat} {L : List Nat} {x : Int32} (hc : RS M0 t pt L M1) (ht : t < 10) (w0 : M0.1 65 (28 + 4 * t + 0) = nI K) (w1 : M0.1 65 (28 + 4 * t + 1) = nI m) (hK : K < 7) (hl : L.length + 8 < 30) (hQ : ∀ M2, RS M0 t pt (uE0 t K m x L).2 M2 → Q (uE0 t K m x L).1 M2) : MI xs (d + 8) mX9_duesBy [.ref 64, .int (nI 1), .int x] M1 Q := by
  obtain ⟨h1, h2, h3, h4, h5, h7⟩ := id hc
  apply wp_X9_duesBy_64
  exact (ite_n (by decide) (ite_p rfl (ite_n (by decide) (ite_n (by decide) (rU0 hc ht w0 w1 hK (by omega) hQ)))))
theorem rU2 {xs : gX} {d : Nat} {M0 M1 : Mem} {Q : Int32 → Mem → Prop} {t pt K m : Nat} {L : List Nat} {x : Int32} (hc : RS M0 t pt L M1) (ht : t < 10) (w0 : M0.1 65 (28 + 4 * t + 0) = nI K) (w1 : M0.1 65 (28 + 4 * t + 1) = nI m) (hK : K < 7) (hl : L.length + 8 < 30) (hQ : ∀ M2, RS M0 t pt (uE0 t K m x L).2 M2 → Q (uE0 t K m x L).1 M2) : MI xs (d + 8) mX9_duesBy [.ref 64, .int (nI 2), .int x] M1 Q := by
  obtain ⟨h1, h2, h3, h4, h5, h7⟩ := id hc
  apply wp_X9_duesBy_64
  exact (ite_n (by decide) (ite_n (by decide) (ite_p rfl (ite_n (by decide) (ite_n (by decide) (rU0 hc ht w0 w1 hK (by omega) hQ))))))
theorem rU3 {xs : gX} {d : Nat} {M0 M1 : Mem} {Q : Int32 → Mem → Prop} {t pt K m : Nat} {L : List Nat} {x : Int32} (hc : RS M0 t pt L M1) (ht : t < 10) (w0 : M0.1 65 (28 + 4 * t + 0) = nI K) (w1 : M0.1 65 (28 + 4 * t + 1) = nI m) (hK : K < 7) (hl : L.length + 8 < 30) (hQ : ∀ M2, RS M0 t pt (uE3 t K m x L).2 M2 → Q (uE3 t K m x L).1 M2) : MI xs (d + 8) mX9_duesBy [.ref 64, .int (nI 3), .int x] M1 Q := by
  obtain ⟨h1, h2, h3, h4, h5, h7⟩ := id hc
  apply wp_X9_duesBy_64
  have hn := RS_note 40 hc
  have hl2 := gL L 40
  rw [h1, nn_at (n := L.length) (by omega), nI_1]
  exact (ite_n (by decide) (ite_n (by decide) (ite_n (by decide) (ite_p rfl (ite_p (nI_ltI' (b := 30) (by omega) (by decide) (by omega)) ⟨vin_n (by omega) (by decide), rU0 hn ht w0 w1 hK (by omega) (fun M2 h2 => hQ M2 h2)⟩)))))
theorem rU4 {xs : gX} {d : Nat} {M0 M1 : Mem} {Q : Int32 → Mem → Prop} {t pt K m : Nat} {L : List Nat} {x : Int32} (hc : RS M0 t pt L M1) (ht : t < 10) (w0 : M0.1 65 (28 + 4 * t + 0) = nI K) (w1 : M0.1 65 (28 + 4 * t + 1) = nI m) (hK : K < 7) (hl : L.length + 9 < 30) (hQ : ∀ M2, RS M0 t pt (uE4 t K m x L).2 M2 → Q (uE4 t K m x L).1 M2) : MI xs (d + 9) mX9_duesBy [.ref 64, .int (nI 4), .int x] M1 Q := by
  obtain ⟨h1, h2, h3, h4, h5, h7⟩ := id hc
  apply wp_X9_duesBy_64
  have hn := RS_note 51 hc
  have hl2 := gL L 51
  rw [h1, nn_at (n := L.length) (by omega), nI_1]
  refine (ite_n (by decide) (ite_n (by decide) (ite_n (by decide) (ite_n (by decide) (ite_p rfl (ite_p (nI_ltI' (b := 30) (by omega) (by decide) (by omega)) ⟨vin_n (by omega) (by decide), rU1 hn ht w0 w1 hK (by omega) (fun M2 h2 => ?_)⟩))))))
  rw [h2.2.2.1]
  exact hQ M2 h2
theorem rU5 {xs : gX} {d : Nat} {M0 M1 : Mem} {Q : Int32 → Mem → Prop} {t pt K m : Nat} {L : List Nat} {x : Int32} (hc : RS M0 t pt L M1) (ht : t < 10) (w0 : M0.1 65 (28 + 4 * t + 0) = nI K) (w1 : M0.1 65 (28 + 4 * t + 1) = nI m) (hK : K < 7) (hl : L.length + 9 < 30) (hQ : ∀ M2, RS M0 t pt (uE0 t K m x L).2 M2 → Q (uE0 t K m x L).1 M2) : MI xs (d + 9) mX9_duesBy [.ref 64, .int (nI 5), .int x] M1 Q := by
  obtain ⟨h1, h2, h3, h4, h5, h7⟩ := id hc
  apply wp_X9_duesBy_64
  exact (ite_n (by decide) (ite_n (by decide) (ite_n (by decide) (ite_n (by decide) (ite_n (by decide) (ite_p rfl (rU1 hc ht w0 w1 hK (by omega) hQ)))))))
theorem rU6 {xs : gX} {d : Nat} {M0 M1 : Mem} {Q : Int32 → Mem → Prop} {t pt K m : Nat} {L : List Nat} {x : Int32} (hc : RS M0 t pt L M1) (ht : t < 10) (w0 : M0.1 65 (28 + 4 * t + 0) = nI K) (w1 : M0.1 65 (28 + 4 * t + 1) = nI m) (hK : K < 7) (hl : L.length + 9 < 30) (hQ : ∀ M2, RS M0 t pt (uE0 t K m x L).2 M2 → Q (uE0 t K m x L).1 M2) : MI xs (d + 8) mX9_duesBy [.ref 64, .int (nI 6), .int x] M1 Q := by
  obtain ⟨h1, h2, h3, h4, h5, h7⟩ := id hc
  apply wp_X9_duesBy_64
  exact (ite_n (by decide) (ite_n (by decide) (ite_n (by decide) (ite_n (by decide) (ite_n (by decide) (ite_n (by decide) (rU0 hc ht w0 w1 hK (by omega) hQ)))))))
theorem rU {xs : gX} {d : Nat} {M0 M1 : Mem} {Q : Int32 → Mem → Prop} {t pt K m : Nat} {L : List Nat} {x : Int32} (hc : RS M0 t pt L M1) (ht : t < 10) (w0 : M0.1 65 (28 + 4 * t + 0) = nI K) (w1 : M0.1 65 (28 + 4 * t + 1) = nI m) {k : Nat} (hk : k < 7) (hK : K < 7) (hl : L.length + 9 < 30) (hQ : ∀ M2, RS M0 t pt (uE t K m k x L).2 M2 → Q (uE t K m k x L).1 M2) : MI xs (d + 9) mX9_duesBy [.ref 64, .int (nI k), .int x] M1 Q := by
  rcases (show k = 0 ∨ k = 1 ∨ k = 2 ∨ k = 3 ∨ k = 4 ∨ k = 5 ∨ k = 6 by omega) with rfl | rfl | rfl | rfl | rfl | rfl | rfl
  · exact rU0 hc ht w0 w1 hK (by omega) hQ
  · exact rU1 hc ht w0 w1 hK (by omega) hQ
  · exact rU2 hc ht w0 w1 hK (by omega) hQ
  · exact rU3 hc ht w0 w1 hK (by omega) hQ
  · exact rU4 hc ht w0 w1 hK (by omega) hQ
  · exact rU5 hc ht w0 w1 hK (by omega) hQ
  · exact rU6 hc ht w0 w1 hK (by omega) hQ
theorem rP0 {xs : gX} {d : Nat} {M0 M1 : Mem} {Q : Int32 → Mem → Prop} {t pt K m : Nat} {L : List Nat} {x : Int32} (hc : RS M0 t pt L M1) (ht : t < 10) (w0 : M0.1 65 (28 + 4 * t + 0) = nI K) (w1 : M0.1 65 (28 + 4 * t + 1) = nI m) (hm : m < 10) (hK : K < 7) (hl : L.length + 1 < 30) (hQ : ∀ M2, RS M0 t (ptd t m) (pE0 t m x L).2 M2 → Q (pE0 t m x L).1 M2) : MI xs (d + 2) mX9_partsBy [.ref 64, .int (nI 0), .int x] M1 Q := by
  obtain ⟨h1, h2, h3, h4, h5, h7⟩ := id hc
  apply wp_X9_partsBy_64
  have hn := RS_note 13 hc
  have hl2 := gL L 13
  rw [h1, nn_at (n := L.length) (by omega), nI_1]
  rw [h3, show (28 + (4 * nI t)) + 1 = nI (28 + 4 * t + 1) from zT t 1, nn_at (n := 28 + 4 * t + 1) (by omega), h7 65 (by decide) (by decide), w1]
  refine (ite_p rfl (ite_p (nI_ltI' (b := 30) (by omega) (by decide) (by omega)) ⟨vin_n (by omega) (by decide), ⟨vin_n (by omega) (by decide), ?_⟩⟩))
  unfold ptd pE0 at hQ
  by_cases q : m = t
  · rw [if_pos q, if_pos q] at hQ
    exact ite_p ((by0 ht hm).mpr q) (hQ _ (RS_pt 1 hn))
  · rw [if_neg q, if_neg q] at hQ
    have q2 : ¬ nI m - nI t = 0 := fun e => q ((by0 ht hm).mp e)
    refine ite_n q2 ?_
    by_cases q3 : nI m - nI t = -1
    · refine ite_p q3 ?_
      rw [q3, div_m1] at hQ
      exact hQ _ (RS_pt 0 hn)
    · exact ite_n q3 ⟨q2, hQ _ (RS_pt 0 hn)⟩
theorem rP1 {xs : gX} {d : Nat} {M0 M1 : Mem} {Q : Int32 → Mem → Prop} {t pt K m : Nat} {L : List Nat} {x : Int32} (hc : RS M0 t pt L M1) (ht : t < 10) (w0 : M0.1 65 (28 + 4 * t + 0) = nI K) (w1 : M0.1 65 (28 + 4 * t + 1) = nI m) (hm : m < 10) (hK : K < 7) (hl : L.length + 9 < 30) (hQ : ∀ M2, RS M0 t (ptd t m) (pE1 t K m x L).2 M2 → Q (pE1 t K m x L).1 M2) : MI xs (d + 7) mX9_partsBy [.ref 64, .int (nI 1), .int x] M1 Q := by
  obtain ⟨h1, h2, h3, h4, h5, h7⟩ := id hc
  apply wp_X9_partsBy_64
  have hn := RS_note 21 hc
  have hl2 := gL L 21
  rw [h1, nn_at (n := L.length) (by omega), nI_1]
  refine (ite_n (by decide) (ite_p rfl (ite_p (nI_ltI' (b := 30) (by omega) (by decide) (by omega)) ⟨vin_n (by omega) (by decide), rP0 hn ht w0 w1 hm hK (by omega) (fun M2 h2 => ?_)⟩)))
  rw [h2.2.2.2.1, h2.2.2.1, show (28 + (4 * nI t)) + 0 = nI (28 + 4 * t + 0) from zT t 0, nn_at (n := 28 + 4 * t + 0) (by omega), h2.2.2.2.2.2 65 (by decide) (by decide), w0]
  have e2 : (pE0 t m x (L ++ [21])).2.length = L.length + 2 := by rw [show (pE0 t m x (L ++ [21])).2 = (L ++ [21]) ++ [13] from rfl, gL, gL]
  unfold pE1 at hQ
  by_cases q : m = t
  · rw [if_pos q] at hQ
    exact ite_n (by rw [ptd, if_pos q]; decide) (hQ M2 h2)
  · rw [if_neg q] at hQ
    exact ite_p (by rw [ptd, if_neg q]; rfl) ⟨vin_n (by omega) (by decide), rA h2 ht w0 w1 hK hK (by omega) (fun M3 h3 => hQ M3 h3)⟩
theorem rP2 {xs : gX} {d : Nat} {M0 M1 : Mem} {Q : Int32 → Mem → Prop} {t pt K m : Nat} {L : List Nat} {x : Int32} (hc : RS M0 t pt L M1) (ht : t < 10) (w0 : M0.1 65 (28 + 4 * t + 0) = nI K) (w1 : M0.1 65 (28 + 4 * t + 1) = nI m) (hm : m < 10) (hK : K < 7) (hl : L.length + 10 < 30) (hQ : ∀ M2, RS M0 t (ptd t m) (pE0 t m x L).2 M2 → Q (pE0 t m x L).1 M2) : MI xs (d + 8) mX9_partsBy [.ref 64, .int (nI 2), .int x] M1 Q := by
  obtain ⟨h1, h2, h3, h4, h5, h7⟩ := id hc
  apply wp_X9_partsBy_64
  exact (ite_n (by decide) (ite_n (by decide) (ite_n (by decide) (ite_n (by decide) (rP0 hc ht w0 w1 hm hK (by omega) hQ)))))
theorem rP3 {xs : gX} {d : Nat} {M0 M1 : Mem} {Q : Int32 → Mem → Prop} {t pt K m : Nat} {L : List Nat} {x : Int32} (hc : RS M0 t pt L M1) (ht : t < 10) (w0 : M0.1 65 (28 + 4 * t + 0) = nI K) (w1 : M0.1 65 (28 + 4 * t + 1) = nI m) (hm : m < 10) (hK : K < 7) (hl : L.length + 10 < 30) (hQ : ∀ M2, RS M0 t (ptd t m) (pE0 t m x L).2 M2 → Q (pE0 t m x L).1 M2) : MI xs (d + 8) mX9_partsBy [.ref 64, .int (nI 3), .int x] M1 Q := by
  obtain ⟨h1, h2, h3, h4, h5, h7⟩ := id hc
  apply wp_X9_partsBy_64
  exact (ite_n (by decide) (ite_n (by decide) (ite_n (by decide) (ite_n (by decide) (rP0 hc ht w0 w1 hm hK (by omega) hQ)))))
theorem rP4 {xs : gX} {d : Nat} {M0 M1 : Mem} {Q : Int32 → Mem → Prop} {t pt K m : Nat} {L : List Nat} {x : Int32} (hc : RS M0 t pt L M1) (ht : t < 10) (w0 : M0.1 65 (28 + 4 * t + 0) = nI K) (w1 : M0.1 65 (28 + 4 * t + 1) = nI m) (hm : m < 10) (hK : K < 7) (hl : L.length + 10 < 30) (hQ : ∀ M2, RS M0 t (ptd t m) (pE1 t K m x L).2 M2 → Q (pE1 t K m x L).1 M2) : MI xs (d + 8) mX9_partsBy [.ref 64, .int (nI 4), .int x] M1 Q := by
  obtain ⟨h1, h2, h3, h4, h5, h7⟩ := id hc
  apply wp_X9_partsBy_64
  exact (ite_n (by decide) (ite_n (by decide) (ite_p rfl (rP1 hc ht w0 w1 hm hK (by omega) hQ))))
theorem rP5 {xs : gX} {d : Nat} {M0 M1 : Mem} {Q : Int32 → Mem → Prop} {t pt K m : Nat} {L : List Nat} {x : Int32} (hc : RS M0 t pt L M1) (ht : t < 10) (w0 : M0.1 65 (28 + 4 * t + 0) = nI K) (w1 : M0.1 65 (28 + 4 * t + 1) = nI m) (hm : m < 10) (hK : K < 7) (hl : L.length + 10 < 30) (hQ : ∀ M2, RS M0 t (ptd t m) (pE1 t K m x L).2 M2 → Q (pE1 t K m x L).1 M2) : MI xs (d + 8) mX9_partsBy [.ref 64, .int (nI 5), .int x] M1 Q := by
  obtain ⟨h1, h2, h3, h4, h5, h7⟩ := id hc
  apply wp_X9_partsBy_64
  exact (ite_n (by decide) (ite_n (by decide) (ite_n (by decide) (ite_p rfl (rP1 hc ht w0 w1 hm hK (by omega) hQ)))))
theorem rP6 {xs : gX} {d : Nat} {M0 M1 : Mem} {Q : Int32 → Mem → Prop} {t pt K m : Nat} {L : List Nat} {x : Int32} (hc : RS M0 t pt L M1) (ht : t < 10) (w0 : M0.1 65 (28 + 4 * t + 0) = nI K) (w1 : M0.1 65 (28 + 4 * t + 1) = nI m) (hm : m < 10) (hK : K < 7) (hl : L.length + 10 < 30) (hQ : ∀ M2, RS M0 t (ptd t m) (pE0 t m x L).2 M2 → Q (pE0 t m x L).1 M2) : MI xs (d + 8) mX9_partsBy [.ref 64, .int (nI 6), .int x] M1 Q := by
  obtain ⟨h1, h2, h3, h4, h5, h7⟩ := id hc
  apply wp_X9_partsBy_64
  exact (ite_n (by decide) (ite_n (by decide) (ite_n (by decide) (ite_n (by decide) (rP0 hc ht w0 w1 hm hK (by omega) hQ)))))
theorem rP {xs : gX} {d : Nat} {M0 M1 : Mem} {Q : Int32 → Mem → Prop} {t pt K m : Nat} {L : List Nat} {x : Int32} (hc : RS M0 t pt L M1) (ht : t < 10) (w0 : M0.1 65 (28 + 4 * t + 0) = nI K) (w1 : M0.1 65 (28 + 4 * t + 1) = nI m) {k : Nat} (hk : k < 7) (hm : m < 10) (hK : K < 7) (hl : L.length + 10 < 30) (hQ : ∀ M2, RS M0 t (ptd t m) (pE t K m k x L).2 M2 → Q (pE t K m k x L).1 M2) : MI xs (d + 8) mX9_partsBy [.ref 64, .int (nI k), .int x] M1 Q := by
  rcases (show k = 0 ∨ k = 1 ∨ k = 2 ∨ k = 3 ∨ k = 4 ∨ k = 5 ∨ k = 6 by omega) with rfl | rfl | rfl | rfl | rfl | rfl | rfl
  · exact rP0 hc ht w0 w1 hm hK (by omega) hQ
  · exact rP1 hc ht w0 w1 hm hK (by omega) hQ
  · exact rP2 hc ht w0 w1 hm hK (by omega) hQ
  · exact rP3 hc ht w0 w1 hm hK (by omega) hQ
  · exact rP4 hc ht w0 w1 hm hK (by omega) hQ
  · exact rP5 hc ht w0 w1 hm hK (by omega) hQ
  · exact rP6 hc ht w0 w1 hm hK (by omega) hQ
