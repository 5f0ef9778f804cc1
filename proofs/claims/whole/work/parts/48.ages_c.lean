/-! ===== the age of a thing ===== -/
theorem sub_more (a b : Nat) : (nI a - nI b) + (-1) = nI a - nI (b + 1) := by
  rw [← nI_1, Int32.sub_eq_add_neg, Int32.sub_eq_add_neg, Int32.neg_add, Int32.sub_eq_add_neg, Int32.add_assoc]
theorem sub_more' (a b : Nat) : (nI a - nI b) - 1 = nI a - nI (b + 1) := by
  rw [← sub_more, Int32.sub_eq_add_neg (nI a - nI b)]
theorem gmax_sub {a b : Nat} (ha : a < 2 ^ 30) (hb : b < 2 ^ 30) : gmax 0 (nI a - nI b) = nI (a - b) := by
  unfold gmax
  by_cases h : b ≤ a
  · rw [pk_sub h]
    by_cases h2 : 0 < a - b
    · rw [if_pos (show (0 : Int32) < nI (a - b) from nI_ltI' (a := 0) (by omega) (by omega) h2)]
    · rw [show a - b = 0 by omega]; rfl
  · rw [if_neg, show a - b = 0 by omega]
    · rfl
    · intro q
      have := pk_sneg (a := a) (b := b) hb (by omega)
      rw [Int32.lt_iff_toInt_lt] at q this
      omega
theorem cut_sub {P : Int32 → Prop} {a b : Nat} (ha : a < 2 ^ 30) (hb : b < 2 ^ 30) (h : P (nI (a - b))) : if nI a - nI b < 0 then P 0 else P (nI a - nI b) := by
  by_cases q : b ≤ a
  · rw [pk_sub q]
    exact ite_n (nI_lt0 (by omega)) h
  · refine ite_p (pk_sneg hb (by omega)) ?_
    rw [show a - b = 0 by omega] at h
    exact h
def bkN (s : Nat → Int32) (t c y : Nat) : Nat := nm s c (y / 365) - (nm s (tx s 2 t) (tx s 3 t / 365) + (if y % 365 < tx s 3 t % 365 then 1 else 0))
theorem ageByBook_ok {xs : gX} {d : Nat} {M : Mem} {Q : Int32 → Mem → Prop} {s : Nat → Int32} {t c y : Nat} (hV : VS s) (hS : SKY M 15 s) (hT : VT s) (hR : ROL M 15 s) (ht : t < N s 1) (hc : c < 4) (hy : y < 73000) (hQ : Q (nI (bkN s t c y)) M) : MI xs (d + 2) mX7_ageByBook [.ref 1, .int (nI t), .int (nI c), .int (nI y)] M Q := by
  obtain ⟨-, g1, g2, g3, g4⟩ := hT.2.2 t ht
  have n1 := nm_near hV (c := c) (y := y / 365) (by omega)
  have n2 := nm_near hV (c := tx s 2 t) (y := tx s 3 t / 365) (by omega)
  apply wp_X7_ageByBook_1
  refine fact_ok (w := 3) hT hR ht (by omega) ?_
  rw [show (365 : Int32) = nI 365 from rfl, pk_rem (by omega) (by omega) (by omega), pk_rem (by omega) (by omega) (by omega), pk_div (by omega) (by omega) (by omega), pk_div (by omega) (by omega) (by omega)]
  refine nameOf_ok hV hS (by omega) (by omega) (fact_ok (w := 2) hT hR ht (by omega) (nameOf_ok hV hS (by omega) (by omega) ?_))
  unfold bkN at hQ
  by_cases q : y % 365 < tx s 3 t % 365
  · refine ite_p (nI_ltI' (by omega) (by omega) q) ?_
    rw [sub_more, gmax_sub (by omega) (by omega)]
    rw [if_pos q] at hQ
    exact hQ
  · refine ite_n (nI_nltI (by omega) (by omega) (by omega)) ?_
    rw [gmax_sub (by omega) (by omega)]
    rw [if_neg q, Nat.add_zero] at hQ
    exact hQ
theorem bookYears_ok {xs : gX} {d : Nat} {M : Mem} {Q : Int32 → Mem → Prop} {s : Nat → Int32} {t c y : Nat} (hV : VS s) (hs : M.1 65 = s) (hN : NMS M s) (hT : VT s) (ht : t < N s 1) (hc : c < 4) (hy : y < 73000) (hQ : Q (nI (bkN s t c y)) M) : MI xs (d + 1) mX9_bookYears [.ref 64, .int (nI t), .int (nI c), .int (nI y)] M Q := by
  obtain ⟨g0, g1, g2, g3, g4⟩ := hT.2.2 t ht
  have h10 := hT.2.1
  have n1 := nm_near hV (c := c) (y := y / 365) (by omega)
  have n2 := nm_near hV (c := tx s 2 t) (y := tx s 3 t / 365) (by omega)
  apply wp_X9_bookYears_64
  have z1 : (28 + (4 * nI t)) + 3 = nI (28 + 4 * t + 3) := by simp only [i_lit, nI_mul, nI_add]
  have z2 : (28 + (4 * nI t)) + 2 = nI (28 + 4 * t + 2) := by simp only [i_lit, nI_mul, nI_add]
  have f3 : s (28 + 4 * t + 3) = nI (tx s 3 t) := g0 3 (by omega)
  have f2 : s (28 + 4 * t + 2) = nI (tx s 2 t) := g0 2 (by omega)
  rw [z1, z2, hs, nn_at (n := 28 + 4 * t + 3) (by omega), nn_at (n := 28 + 4 * t + 2) (by omega), f3, f2, show (365 : Int32) = nI 365 from rfl, pk_rem (by omega) (by omega) (by omega), pk_rem (by omega) (by omega) (by omega), pk_div (by omega) (by omega) (by omega), pk_div (by omega) (by omega) (by omega)]
  have z3 : (200 * nI c) + nI (y / 365) = nI (200 * c + y / 365) := by simp only [i_lit, nI_mul, nI_add]
  have z4 : (200 * nI (tx s 2 t)) + nI (tx s 3 t / 365) = nI (200 * tx s 2 t + tx s 3 t / 365) := by simp only [i_lit, nI_mul, nI_add]
  rw [z3, z4, nn_at (n := 200 * c + y / 365) (by omega), nn_at (n := 200 * tx s 2 t + tx s 3 t / 365) (by omega), hN c _ hc (by omega), hN _ _ g3 (by omega), sub_more', Int32.sub_zero]
  refine ⟨vin_n (by omega) (by decide), vin_n (by omega) (by decide), vin_n (by omega) (by decide), vin_n (by omega) (by decide), ?_⟩
  unfold bkN at hQ
  by_cases q : y % 365 < tx s 3 t % 365
  · refine ite_p (nI_ltI' (by omega) (by omega) q) ?_
    rw [if_pos q] at hQ
    exact cut_sub (P := fun x => Q x M) (by omega) (by omega) hQ
  · refine ite_n (nI_nltI (by omega) (by omega) (by omega)) ?_
    rw [if_neg q, Nat.add_zero] at hQ
    exact cut_sub (P := fun x => Q x M) (by omega) (by omega) hQ
/-- held within bounds -/
def hld (x l h : Int32) : Int32 := if x < l then l else if h < x then h else x
theorem held_ok {xs : gX} {d : Nat} {M : Mem} {Q : Int32 → Mem → Prop} {x l h : Int32} (hQ : Q (hld x l h) M) : MI xs d mX9_held [.int x, .int l, .int h] M Q := by
  apply wp_X9_held
  unfold hld at hQ
  by_cases q1 : x < l
  · rw [if_pos q1] at hQ; exact ite_p q1 hQ
  · rw [if_neg q1] at hQ
    refine ite_n q1 ?_
    by_cases q2 : h < x
    · rw [if_pos q2] at hQ; exact ite_p q2 hQ
    · rw [if_neg q2] at hQ; exact ite_n q2 hQ
theorem hold_is {x l h : Int32} (hlh : l.toInt ≤ h.toInt) : gmax l (gmin h x) = hld x l h := by
  unfold gmax gmin hld
  simp only [Int32.lt_iff_toInt_lt]
  by_cases q1 : x.toInt < l.toInt
  · rw [if_pos (c := x.toInt < l.toInt) q1, if_pos (c := x.toInt < h.toInt) (by omega), if_neg (by omega)]
  · rw [if_neg (c := x.toInt < l.toInt) q1]
    by_cases q2 : h.toInt < x.toInt
    · rw [if_pos (c := h.toInt < x.toInt) q2, if_neg (c := x.toInt < h.toInt) (by omega)]
      split
      · rfl
      · exact Int32.toInt_inj.mp (by omega)
    · rw [if_neg (c := h.toInt < x.toInt) q2]
      by_cases q3 : x.toInt < h.toInt
      · rw [if_pos q3]
        split
        · rfl
        · exact Int32.toInt_inj.mp (by omega)
      · rw [if_neg q3]
        have e : x = h := Int32.toInt_inj.mp (by omega)
        subst e
        split
        · rfl
        · exact Int32.toInt_inj.mp (by omega)
theorem hold_ok {xs : gX} {d : Nat} {M : Mem} {Q : Int32 → Mem → Prop} {x l h : Int32} (hlh : l.toInt ≤ h.toInt) (hQ : Q (hld x l h) M) : MI xs (d + 1) mX8_hold [.int x, .int l, .int h] M Q := by
  apply wp_X8_hold
  rw [hold_is hlh]
  exact hQ
/-- the age of the thing t in county c on the day y -/
def ageF (s : Nat → Int32) (t c y : Nat) : Int32 :=
  if y < tx s 3 t then 0 else if tx s 0 t = 0 then nI ((y - tx s 3 t) / 365) else if tx s 0 t = 1 then nI (bkN s t c y) else
  if tx s 0 t = 2 then nI (unl s c (tx s 3 t / 365) (y / 365 - tx s 3 t / 365)) else if tx s 0 t = 3 then nI ((y - tx s 3 t) / 365 + tx s 1 t) else
  if tx s 0 t = 4 then nI (bkN s t c y - tx s 1 t) else if tx s 0 t = 5 then nI (bkN s t c y + pts s c (ns s)) else
  if s 84 = 0 then nI (max (bkN s t c y) ((y - tx s 3 t) / 365)) else hld (evT s 0 (nI (bkN s t c y)) (nI ((y - tx s 3 t) / 365)) (nI (tx s 1 t))) 0 999
theorem ageC_ok {xs : gX} {d : Nat} {M : Mem} {Q : Int32 → Mem → Prop} {s : Nat → Int32} {t c y : Nat} (hV : VS s) (hS : SKY M 15 s) (hT : VT s) (hR : ROL M 15 s) (hL : LAW (M.1 29 2) (M.1 29 3) (M.1 30) 0 s) (ht : t < N s 1) (hc : c < 4) (hy : y < 73000) (hQ : ∀ M1, FR [31] M M1 → Q (ageF s t c y) M1) : MI xs (d + 3) mX7_ageOf [.ref 1, .int (nI t), .int (nI c), .int (nI y)] M Q := by
  obtain ⟨-, g1, g2, g3, g4⟩ := hT.2.2 t ht
  have n1 := nm_near hV (c := c) (y := y / 365) (by omega)
  have n2 := nm_near hV (c := tx s 2 t) (y := tx s 3 t / 365) (by omega)
  have hb : bkN s t c y < 300 := by unfold bkN; omega
  have hp := pts_le s c (ns s)
  have h6 := hV.2.1
  unfold ageF at hQ
  apply wp_X7_ageOf_1
  refine fact_ok (w := 3) hT hR ht (by omega) ?_
  by_cases q : y < tx s 3 t
  · rw [if_pos q] at hQ
    exact ite_p (nI_ltI' (by omega) (by omega) q) (hQ M FR.rfl')
  rw [if_neg q] at hQ
  refine ite_n (nI_nltI (by omega) (by omega) (by omega)) (fact_ok (w := 1) hT hR ht (by omega) (fact_ok (w := 0) hT hR ht (by omega) ?_))
  rw [show (365 : Int32) = nI 365 from rfl, pk_sub (by omega), pk_div (by omega) (by omega) (by omega), pk_div (by omega) (by omega) (by omega), pk_div (by omega) (by omega) (by omega)]
  by_cases k0 : tx s 0 t = 0
  · rw [if_pos k0] at hQ
    exact ite_p (by rw [k0]; rfl) (hQ M FR.rfl')
  rw [if_neg k0] at hQ
  refine ite_n (nI_ne (b := 0) (by omega) (by omega) k0) ?_
  by_cases k1 : tx s 0 t = 1
  · rw [if_pos k1] at hQ
    exact ite_p (by rw [k1]; rfl) (ageByBook_ok hV hS hT hR ht hc hy (hQ M FR.rfl'))
  rw [if_neg k1] at hQ
  refine ite_n (nI_ne (b := 1) (by omega) (by omega) k1) ?_
  by_cases k2 : tx s 0 t = 2
  · rw [if_pos k2] at hQ
    refine ite_p (by rw [k2]; rfl) ?_
    have h := turnsOfName_ok (xs := xs) (d := d + 1) (M := M) (Q := Q) (a := tx s 3 t / 365) (m := y / 365 - tx s 3 t / 365) hV hS hc (by omega) (hQ M FR.rfl')
    rw [show tx s 3 t / 365 + (y / 365 - tx s 3 t / 365) = y / 365 by omega] at h
    exact h
  rw [if_neg k2] at hQ
  refine ite_n (nI_ne (b := 2) (by omega) (by omega) k2) ?_
  by_cases k3 : tx s 0 t = 3
  · rw [if_pos k3] at hQ
    refine ite_p (by rw [k3]; rfl) ?_
    rw [nI_add]
    exact hQ M FR.rfl'
  rw [if_neg k3] at hQ
  refine ite_n (nI_ne (b := 3) (by omega) (by omega) k3) ?_
  by_cases k4 : tx s 0 t = 4
  · rw [if_pos k4] at hQ
    refine ite_p (by rw [k4]; rfl) (ageByBook_ok hV hS hT hR ht hc hy ?_)
    rw [gmax_sub (by omega) (by omega)]
    exact hQ M FR.rfl'
  rw [if_neg k4] at hQ
  refine ite_n (nI_ne (b := 4) (by omega) (by omega) k4) ?_
  by_cases k5 : tx s 0 t = 5
  · rw [if_pos k5] at hQ
    refine ite_p (by rw [k5]; rfl) (ageByBook_ok hV hS hT hR ht hc hy (partsOf_ok hV hS (by omega) ?_))
    rw [nI_add]
    exact hQ M FR.rfl'
  rw [if_neg k5] at hQ
  refine ite_n (nI_ne (b := 5) (by omega) (by omega) k5) (ageByBook_ok hV hS hT hR ht hc hy ?_)
  apply wp_X7_ageByLaw_1
  rcases hL.2 with ⟨e1, e2⟩ | ⟨n, n1', n60, hn, hsd, -⟩
  · rw [if_pos e1] at hQ
    refine ite_p e2 ?_
    rw [show gmax (nI (bkN s t c y)) (nI ((y - tx s 3 t) / 365)) = nI (max (bkN s t c y) ((y - tx s 3 t) / 365)) from ?_]
    · exact hQ M FR.rfl'
    · unfold gmax
      by_cases r : bkN s t c y < (y - tx s 3 t) / 365
      · rw [if_pos (nI_ltI' (by omega) (by omega) r), Nat.max_eq_right (by omega)]
      · rw [if_neg (nI_nltI (by omega) (by omega) (by omega)), Nat.max_eq_left (by omega)]
  · have hst : ¬ s (84 + 125 * 0) = 0 := by rw [hn]; exact nI_ne (b := 0) (by omega) (by omega) (by omega)
    rw [if_neg hst] at hQ
    refine ite_n (by rw [hsd]; decide) (value29_ok hL hst (fun M1 h1 => hold_ok (by decide) (hQ M1 h1)))
theorem ageR_ok {xs : gX} {d : Nat} {M : Mem} {Q : Int32 → Mem → Prop} {s : Nat → Int32} {sz sd : Int32} {cd : Nat → Int32} {t c y : Nat} (hV : VS s) (hs : M.1 65 = s) (hN : NMS M s) (hT : VT s) (hL : LAW sz sd cd 0 s) (ht : t < N s 1) (hc : c < 4) (hy : y < 73000) (hQ : ∀ M1, FR [70, 71] M M1 → Q (ageF s t c y) M1) : MI xs (d + 3) mX9_ageOf [.ref 64, .int (nI t), .int (nI c), .int (nI y)] M Q := by
  obtain ⟨g0, g1, g2, g3, g4⟩ := hT.2.2 t ht
  have h10 := hT.2.1
  have n1 := nm_near hV (c := c) (y := y / 365) (by omega)
  have n2 := nm_near hV (c := tx s 2 t) (y := tx s 3 t / 365) (by omega)
  have hb : bkN s t c y < 300 := by unfold bkN; omega
  have hp := pts_le s c (ns s)
  have h6 := hV.2.1
  have z3 : (28 + (4 * nI t)) + 3 = nI (28 + 4 * t + 3) := by simp only [i_lit, nI_mul, nI_add]
  have z1 : (28 + (4 * nI t)) + 1 = nI (28 + 4 * t + 1) := by simp only [i_lit, nI_mul, nI_add]
  have z0 : (28 + (4 * nI t)) + 0 = nI (28 + 4 * t + 0) := by simp only [i_lit, nI_mul, nI_add]
  have f3 : s (28 + 4 * t + 3) = nI (tx s 3 t) := g0 3 (by omega)
  have f1 : s (28 + 4 * t + 1) = nI (tx s 1 t) := g0 1 (by omega)
  have f0 : s (28 + 4 * t + 0) = nI (tx s 0 t) := g0 0 (by omega)
  unfold ageF at hQ
  apply wp_X9_ageOf_64
  rw [z3, z1, z0, hs, nn_at (n := 28 + 4 * t + 3) (by omega), f3]
  refine ⟨vin_n (by omega) (by decide), ?_⟩
  by_cases q : y < tx s 3 t
  · rw [if_pos q] at hQ
    exact ite_p (nI_ltI' (by omega) (by omega) q) (hQ M FR.rfl')
  rw [if_neg q] at hQ
  refine ite_n (nI_nltI (by omega) (by omega) (by omega)) (bookYears_ok hV hs hN hT ht hc hy ⟨vin_n (by omega) (by decide), vin_n (by omega) (by decide), ?_⟩)
  rw [hs, nn_at (n := 28 + 4 * t + 1) (by omega), nn_at (n := 28 + 4 * t + 0) (by omega), f1, f0, show (365 : Int32) = nI 365 from rfl, pk_sub (by omega), pk_div (by omega) (by omega) (by omega), pk_div (by omega) (by omega) (by omega), pk_div (by omega) (by omega) (by omega)]
  by_cases k0 : tx s 0 t = 0
  · rw [if_pos k0] at hQ
    rw [k0]
    exact ite_n (by decide) (ite_n (by decide) (ite_n (by decide) (ite_n (by decide) (ite_n (by decide) (ite_n (by decide) (hQ M FR.rfl'))))))
  rw [if_neg k0] at hQ
  by_cases k1 : tx s 0 t = 1
  · rw [if_pos k1] at hQ
    exact ite_p (by rw [k1]; rfl) (hQ M FR.rfl')
  rw [if_neg k1] at hQ
  refine ite_n (nI_ne (b := 1) (by omega) (by omega) k1) ?_
  by_cases k2 : tx s 0 t = 2
  · rw [if_pos k2] at hQ
    refine ite_p (by rw [k2]; rfl) ?_
    have h := unlike_ok (xs := xs) (d := d + 2) (M := M) (Q := Q) (a := tx s 3 t / 365) (m := y / 365 - tx s 3 t / 365) hV hN hc (by omega) (hQ M FR.rfl')
    rw [show tx s 3 t / 365 + (y / 365 - tx s 3 t / 365) = y / 365 by omega] at h
    exact h
  rw [if_neg k2] at hQ
  refine ite_n (nI_ne (b := 2) (by omega) (by omega) k2) ?_
  by_cases k3 : tx s 0 t = 3
  · rw [if_pos k3] at hQ
    refine ite_p (by rw [k3]; rfl) ?_
    rw [nI_add]
    exact hQ M FR.rfl'
  rw [if_neg k3] at hQ
  refine ite_n (nI_ne (b := 3) (by omega) (by omega) k3) ?_
  by_cases k4 : tx s 0 t = 4
  · rw [if_pos k4] at hQ
    refine ite_p (by rw [k4]; rfl) ?_
    by_cases r : bkN s t c y < tx s 1 t
    · refine ite_p (nI_ltI' (by omega) (by omega) r) ?_
      rw [show bkN s t c y - tx s 1 t = 0 by omega] at hQ
      exact hQ M FR.rfl'
    · refine ite_n (nI_nltI (by omega) (by omega) (by omega)) ?_
      rw [pk_sub (by omega)]
      exact hQ M FR.rfl'
  rw [if_neg k4] at hQ
  refine ite_n (nI_ne (b := 4) (by omega) (by omega) k4) ?_
  by_cases k5 : tx s 0 t = 5
  · rw [if_pos k5] at hQ
    refine ite_p (by rw [k5]; rfl) (salesOf_ok hV hs (by omega) ?_)
    rw [nI_add]
    exact hQ M FR.rfl'
  rw [if_neg k5] at hQ
  refine ite_n (nI_ne (b := 5) (by omega) (by omega) k5) (ite_p (by rw [show tx s 0 t = 6 by omega]; rfl) ?_)
  apply wp_X9_toldAge_64
  rw [hs, z1, nn_at (n := 28 + 4 * t + 1) (by omega), f1]
  rcases id hL.2 with ⟨e1, e2⟩ | ⟨n, n1', n60, hn, hsd, -⟩
  · rw [if_pos e1] at hQ
    refine ite_n (by rw [show s 84 = 0 from e1]; decide) ?_
    by_cases r : (y - tx s 3 t) / 365 < bkN s t c y
    · rw [Nat.max_eq_left (by omega)] at hQ
      exact ite_p (nI_ltI' (by omega) (by omega) r) (hQ M FR.rfl')
    · rw [Nat.max_eq_right (by omega)] at hQ
      exact ite_n (nI_nltI (by omega) (by omega) (by omega)) (hQ M FR.rfl')
  · have hst : ¬ s (84 + 125 * 0) = 0 := by rw [hn]; exact nI_ne (b := 0) (by omega) (by omega) (by omega)
    rw [if_neg hst] at hQ
    refine ite_p (by rw [show s 84 = nI n from hn]; exact nI_ltI' (a := 0) (by omega) (by omega) (by omega)) ⟨vin_n (by omega) (by decide), ?_⟩
    refine worked_ok (u := 0) (by omega) (s := s) (by rw [mw_ne _ _ _ (by decide), mw_ne _ _ _ (by decide), mw_ne _ _ _ (by decide), hs]) hL hst (x1 := nI (bkN s t c y)) (x2 := nI ((y - tx s 3 t) / 365)) (x3 := nI (tx s 1 t)) ?_ ?_ ?_ (fun M1 h1 => held_ok (hQ M1 (FR.trans (((FR.rfl'.mw (by decide)).mw (by decide)).mw (by decide)) (h1.mono (by decide)))))
    · show (mw (mw (mw M 70 98 _) 70 116 _) 70 109 _).1 70 98 = _
      rw [mw_at, upd_ne _ _ (by decide), mw_at, upd_ne _ _ (by decide), mw_at, upd_at]
    · show (mw (mw (mw M 70 98 _) 70 116 _) 70 109 _).1 70 116 = _
      rw [mw_at, upd_ne _ _ (by decide), mw_at, upd_at]
    · show (mw (mw (mw M 70 98 _) 70 116 _) 70 109 _).1 70 109 = _
      rw [mw_at, upd_at]
