/-! ===== may, paperIs, check ===== -/
theorem b8 (p i : Nat) : (8 * nI p) + nI i = nI (8 * p + i) := by simp only [i_lit, nI_mul, nI_add]
theorem F1_25 {M M1 : Mem} (h : F1 M M1) (f : Nat → Int32) : F1 M (mwA M1 25 f) := fun k hk => by rw [mwA_ne _ _ (fun e => hk (by rw [e]; decide))]; exact h k hk
theorem P_may {xs : gX} {d : Nat} {M : Mem} (hI : Inv M) (a b : Int32) : PB xs d mX8_may mX9_may [.int a, .int b] M := by
  obtain ⟨⟨v1, i1⟩, ⟨v2, i2⟩, ⟨v3, i3⟩, ⟨v4, i4⟩, i5⟩ := id hI.1
  have hT0 : M.1 65 1 = nI (N (M.1 65) 1) := v2.1
  have hT1 : M.1 20 1 = nI (N (M.1 65) 1) := i2.1.trans v2.1
  have hTn := v2.2.1
  have hP0 : M.1 65 2 = nI (N (M.1 65) 2) := v3.1
  have hP1 : M.1 22 2 = nI (N (M.1 65) 2) := i3.1.trans v3.1
  have hPn := v3.2.1
  have hS0 : M.1 65 0 = nI (ns (M.1 65)) := v1.1
  have hS1 : M.1 15 4 = nI (ns (M.1 65)) := i1.1.trans v1.1
  have hSn := v1.2.1
  rcases arg3 a (N (M.1 65) 2) (by omega) with h | ⟨h0, h1⟩ | ⟨ja, hja, rfl⟩
  · apply wp_X8_may_0
    refine (ite_p h ?_)
    apply wp_X9_may_64
    exact (ite_p h ⟨rfl, Inv_err hI 1⟩)
  · apply wp_X8_may_0
    refine (ite_n h0 (ite_n (cnt_o hP1 h1) ?_))
    apply wp_X9_may_64
    exact (ite_n h0 (ite_p (cnt_out hP0 (by omega) h0 h1) ⟨rfl, Inv_err hI 1⟩))
  obtain ⟨a1, a2, a3⟩ := cnt_in hP1 hP0 (by omega) hja
  by_cases hb : b < 0
  · apply wp_X8_may_0
    refine (ite_n a1 (ite_p a2 ?_))
    refine ite_p hb ?_
    apply wp_X9_may_64
    refine (ite_n a1 (ite_n a3 ?_))
    exact ite_p hb ⟨rfl, Inv_err hI 1⟩
  obtain ⟨j, hj, rfl⟩ := nI_of hb
  have d8 := dn_8 v1 ja
  apply wp_X8_may_0
  refine (ite_n a1 (ite_p a2 ?_))
  refine ite_n hb (listDays_ok hI.1 F1.rfl' hja (fun f hf => ?_))
  have h1 := F1_25 (F1.rfl' (M := M)) f
  by_cases q : j < dn (M.1 65) ja
  · refine ite_p (nI_ltI' (by omega) (by omega) q) ⟨vin_n (by omega) (by decide), ?_⟩
    rw [nn_at (n := j) (by omega), mwA_at, hf j q, ← (F1s65 h1)]
    rw [← (F1s65 h1)] at a3
    apply wp_X9_may_64
    refine (ite_n a1 (ite_n a3 ?_))
    refine ite_n hb (findMay_ok hI.1 h1 (fun M2 y1 y2 y3 => ?_))
    obtain ⟨z1, z2⟩ := y3 ja hja
    rw [nn_at (n := ja) (by omega), z1, b8, nn_at (n := 8 * ja + j) (by omega), z2 j q, (F1s65 h1)]
    exact ⟨vin_n (by omega) (by decide), ite_p (nI_ltI' (by omega) (by omega) q) ⟨vin_n (by omega) (by decide), rfl, Inv_scr hI y2⟩⟩
  · refine ite_n (nI_nltI (by omega) (by omega) (by omega)) ?_
    have e65 := F1_65_6 h1 2 ((mwA M 25 f).1 6 2 + 1)
    have hI6 := F1_6 hI.1 h1 2 ((mwA M 25 f).1 6 2 + 1)
    rw [← e65] at a3 q
    have hjb : ja < N ((mw (mwA M 25 f) 6 2 ((mwA M 25 f).1 6 2 + 1)).1 65) 2 := by rw [e65]; exact hja
    apply wp_X9_may_64
    refine (ite_n a1 (ite_n a3 ?_))
    refine ite_n hb (findMay_ok hI6 F1.rfl' (fun M2 y1 y2 y3 => ?_))
    obtain ⟨z1, z2⟩ := y3 ja hjb
    rw [e65] at q z1
    rw [nn_at (n := ja) (by omega), z1]
    exact ⟨vin_n (by omega) (by decide), ite_n (nI_nltI (by omega) (by omega) (by omega)) ⟨rfl, Inv_err3 hI 2 h1 y2⟩⟩
theorem P_paperIs {xs : gX} {d : Nat} {M : Mem} (hI : Inv M) (a b : Int32) : PB xs d mX8_paperIs mX9_paperIs [.int a, .int b] M := by
  obtain ⟨⟨v1, i1⟩, ⟨v2, i2⟩, ⟨v3, i3⟩, ⟨v4, i4⟩, i5⟩ := id hI.1
  have hT0 : M.1 65 1 = nI (N (M.1 65) 1) := v2.1
  have hT1 : M.1 20 1 = nI (N (M.1 65) 1) := i2.1.trans v2.1
  have hTn := v2.2.1
  have hP0 : M.1 65 2 = nI (N (M.1 65) 2) := v3.1
  have hP1 : M.1 22 2 = nI (N (M.1 65) 2) := i3.1.trans v3.1
  have hPn := v3.2.1
  have hS0 : M.1 65 0 = nI (ns (M.1 65)) := v1.1
  have hS1 : M.1 15 4 = nI (ns (M.1 65)) := i1.1.trans v1.1
  have hSn := v1.2.1
  rcases arg3 a (N (M.1 65) 2) (by omega) with h | ⟨h0, h1⟩ | ⟨ja, hja, rfl⟩
  · apply wp_X8_paperIs_0
    refine (ite_p h ?_)
    apply wp_X9_paperIs_64
    exact (ite_p h ⟨rfl, Inv_err hI 1⟩)
  · apply wp_X8_paperIs_0
    refine (ite_n h0 (ite_n (cnt_o hP1 h1) ?_))
    apply wp_X9_paperIs_64
    exact (ite_n h0 (ite_p (cnt_out hP0 (by omega) h0 h1) ⟨rfl, Inv_err hI 1⟩))
  obtain ⟨a1, a2, a3⟩ := cnt_in hP1 hP0 (by omega) hja
  rcases arg3 b 3 (by decide) with h | ⟨h0, h1⟩ | ⟨jb, hjb, rfl⟩
  · apply wp_X8_paperIs_0
    refine (ite_n a1 (ite_p a2 (ite_p h ?_)))
    apply wp_X9_paperIs_64
    exact (ite_n a1 (ite_n a3 (ite_p h ⟨rfl, Inv_err hI 1⟩)))
  · apply wp_X8_paperIs_0
    refine (ite_n a1 (ite_p a2 (ite_n h0 (ite_n h1 ?_))))
    apply wp_X9_paperIs_64
    exact (ite_n a1 (ite_n a3 (ite_n h0 (ite_p (ar_out (n := 2) rfl rfl (by decide) h1) ⟨rfl, Inv_err hI 1⟩))))
  obtain ⟨b1, b2, b3⟩ := ar_in (n := 2) (x := 3) (y := 2) rfl rfl hjb (by decide)
  obtain ⟨g0, g1, g2, g3, g4, g5⟩ := pxI hI.1 hja
  rcases (show jb = 2 ∨ jb = 0 ∨ jb = 1 by omega) with rfl | rfl | rfl
  · apply wp_X8_paperIs_0
    refine (ite_n a1 (ite_p a2 (ite_n b1 (ite_p b2 ?_))))
    refine ite_p rfl (listDays_ok hI.1 F1.rfl' hja (fun f hf => ?_))
    have h1 := F1_25 (F1.rfl' (M := M)) f
    rw [← (F1s65 h1)] at a3
    apply wp_X9_paperIs_64
    refine (ite_n a1 (ite_n a3 (ite_n b1 (ite_n b3 ?_))))
    refine findMay_ok hI.1 h1 (fun M2 y1 y2 y3 => ?_)
    obtain ⟨z1, z2⟩ := y3 ja hja
    rw [nn_at (n := ja) (by omega), z1]
    exact ite_p rfl ⟨vin_n (by omega) (by decide), rfl, Inv_scr hI y2⟩
  · apply wp_X8_paperIs_0
    refine (ite_n a1 (ite_p a2 (ite_n b1 (ite_p b2 ?_))))
    rw [nn_at (n := ja) (by omega), g4]
    refine ite_n (by decide) (ite_p rfl ⟨vin_n (by omega) (by decide), ?_⟩)
    apply wp_X9_paperIs_64
    refine (ite_n a1 (ite_n a3 (ite_n b1 (ite_n b3 ?_))))
    refine findMay_ok hI.1 F1.rfl' (fun M2 y1 y2 y3 => ?_)
    rw [show (68 + (2 * nI ja)) + nI 0 = nI (68 + 2 * ja + 0) by simp only [i_lit, nI_mul, nI_add], nn_at (n := 68 + 2 * ja + 0) (by omega), (F1s65 y2), g0 0 (by omega)]
    exact ite_n (by decide) ⟨vin_n (by omega) (by decide), rfl, Inv_scr hI y2⟩
  · apply wp_X8_paperIs_0
    refine (ite_n a1 (ite_p a2 (ite_n b1 (ite_p b2 ?_))))
    rw [nn_at (n := ja) (by omega), g5]
    refine ite_n (by decide) (ite_n (by decide) ⟨vin_n (by omega) (by decide), ?_⟩)
    apply wp_X9_paperIs_64
    refine (ite_n a1 (ite_n a3 (ite_n b1 (ite_n b3 ?_))))
    refine findMay_ok hI.1 F1.rfl' (fun M2 y1 y2 y3 => ?_)
    rw [show (68 + (2 * nI ja)) + nI 1 = nI (68 + 2 * ja + 1) by simp only [i_lit, nI_mul, nI_add], nn_at (n := 68 + 2 * ja + 1) (by omega), (F1s65 y2), g0 1 (by omega)]
    exact ite_n (by decide) ⟨vin_n (by omega) (by decide), rfl, Inv_scr hI y2⟩
/-! check -/
def mayP (s : Nat → Int32) (p : Nat) (x : Int32) : Bool := !decide (x < 0) && decide (x < 73000) && decide (x.toNatClampNeg % 365 = px s 1 p) && anyN s (px s 0 p) (x.toNatClampNeg / 365) 4
theorem mayP_n {s : Nat → Int32} {p v : Nat} (hv : v < 73000) : mayP s p (nI v) = (decide (v % 365 = px s 1 p) && anyN s (px s 0 p) (v / 365) 4) := by
  have h0 : ¬ nI v < 0 := nI_lt0 (by omega)
  have h1 : nI v < (73000 : Int32) := nI_ltI' (b := 73000) (by omega) (by decide) hv
  unfold mayP
  rw [nn_at (by omega)]
  simp [h0, h1]
theorem mayBeC_ok {xs : gX} {d : Nat} {M1 : Mem} {Q : Int32 → Mem → Prop} {s : Nat → Int32} {p : Nat} {x : Int32} (hV : VS s) (hS : SKY M1 15 s) (hp : p < 8) (h1 : px s 0 p < 207) (h2 : px s 1 p < 365) (h23 : M1.1 23 p = nI (px s 0 p)) (h24 : M1.1 24 p = nI (px s 1 p)) (hQ : Q (b2 (mayP s p x)) M1) : MI xs (d + 2) mX2_mayBe [.ref 22, .ref 15, .int (nI p), .int x] M1 Q := by
  apply wp_X2_mayBe_22_15
  rw [nn_at (n := p) (by omega), h23, h24]
  rcases arg3 x 73000 (by decide) with h | ⟨h0, h3⟩ | ⟨v, hv, rfl⟩
  · rw [show mayP s p x = false by unfold mayP; simp [h], b2_f] at hQ
    exact ite_p h hQ
  · rw [show mayP s p x = false by unfold mayP; have h4 : ¬ x < (73000 : Int32) := h3; simp [h4], b2_f] at hQ
    exact ite_n h0 (ite_n h3 hQ)
  · rw [mayP_n hv] at hQ
    refine ite_n (nI_lt0 (by omega)) (ite_p (nI_ltI' (b := 73000) (by omega) (by decide) hv) ⟨vin_n hp (by decide), ?_⟩)
    rw [show (365 : Int32) = nI 365 from rfl, pk_rem (by omega) (by omega) (by omega), pk_div (by omega) (by omega) (by omega)]
    by_cases q : v % 365 = px s 1 p
    · refine ite_p (by rw [q]) (anyS_ok hV hS (by omega) (by omega) ?_)
      cases hb : anyN s (px s 0 p) (v / 365) 4 with
      | false => rw [hb] at hQ; exact ite_p rfl (by simpa [b2] using hQ)
      | true => rw [hb] at hQ; exact ite_n (by decide) (by simpa [b2, q] using hQ)
    · exact ite_n (nI_ne (by omega) (by omega) q) (by simpa [b2, q] using hQ)
def exB (s : Nat → Int32) (p : Nat) (x : Int32) : Nat → Bool
  | 0 => false
  | j + 1 => exB s p x j || decide (nI (dg s p j) = x)
theorem exB_iff {s : Nat → Int32} {p : Nat} {x : Int32} : ∀ {n : Nat}, exB s p x n = true ↔ ∃ j, j < n ∧ nI (dg s p j) = x := by
  intro n
  induction n with
  | zero => simp [exB]
  | succ n ih =>
    simp only [exB, Bool.or_eq_true, decide_eq_true_eq, ih]
    constructor
    · rintro (⟨c, h1, h2⟩ | h)
      · exact ⟨c, by omega, h2⟩
      · exact ⟨n, by omega, h⟩
    · rintro ⟨c, h1, h2⟩
      by_cases e : c = n
      · subst e; exact .inr h2
      · exact .inl ⟨c, by omega, h2⟩
theorem exB_may {s : Nat → Int32} {p : Nat} {x : Int32} (ho : px s 1 p < 365) : exB s p x (dn s p) = mayP s p x := by
  have h : exB s p x (dn s p) = true ↔ mayP s p x = true := by
    rw [exB_iff]
    constructor
    · rintro ⟨j, h1, rfl⟩
      have h2 := dg_lt p j h1
      have h3 := mL_at 200 0 j h1
      rw [mayP_n h2]
      have e1 : dg s p j % 365 = px s 1 p := by unfold dg; omega
      have e2 : dg s p j / 365 = (mL s (px s 0 p) 200 0).getD j 0 := by unfold dg; omega
      rw [e1, e2, h3.2.2]
      simp
    · intro h
      rcases arg3 x 73000 (by decide) with h0 | ⟨h0, h3⟩ | ⟨v, hv, rfl⟩
      · unfold mayP at h; simp [h0] at h
      · unfold mayP at h
        have h4 : ¬ x < (73000 : Int32) := h3
        simp [h4] at h
      · rw [mayP_n hv] at h
        simp only [Bool.and_eq_true, decide_eq_true_eq] at h
        obtain ⟨j, g1, g2⟩ := mL_mem 200 0 (v / 365) (by omega) (by omega) h.2
        refine ⟨j, g1, ?_⟩
        congr 1
        unfold dg
        rw [g2]; omega
  cases h1 : exB s p x (dn s p) <;> cases h2 : mayP s p x <;> simp_all
theorem mayBeR_ok {xs : gX} {d : Nat} {M1 : Mem} {Q : Int32 → Mem → Prop} {s : Nat → Int32} {p n : Nat} {x : Int32} (hV : VS s) (hA : MAY M1 s n) (hp : p < n) (h8 : n ≤ 8) (ho : px s 1 p < 365) (hQ : Q (b2 (mayP s p x)) M1) : MI xs d mX9_mayBe [.ref 64, .int (nI p), .int x] M1 Q := by
  have d8 := dn_8 hV p
  obtain ⟨z1, z2⟩ := hA p hp
  have key : ∀ m i, i + m = dn s p → GW xs d mX9_mayBe 5 [(0, .ref 64), (1, .int (nI p)), (2, .int x), (3, .int (b2 (exB s p x i))), (4, .int (nI i))] [] M1 (QI Q) := by
    intro m
    induction m with
    | zero =>
      intro i hi
      obtain rfl : i = dn s p := by omega
      apply wp_X9_mayBe_64_L5
      rw [nn_at (n := p) (by omega), z1]
      refine ⟨vin_n (by omega) (by decide), ite_n (nI_nltI (by omega) (by omega) (by omega)) ⟨b2_01 _, ?_⟩⟩
      rw [exB_may ho]
      exact hQ
    | succ m ih =>
      intro i hi
      have ih := ih (i + 1) (by omega)
      apply wp_X9_mayBe_64_L5
      rw [nn_at (n := p) (by omega), z1, b8, nn_at (n := 8 * p + i) (by omega), z2 i (by omega), nI_1]
      refine ⟨vin_n (by omega) (by decide), ite_p (nI_ltI' (by omega) (by omega) (by omega)) ?_⟩
      cases hb : exB s p x i with
      | true =>
        rw [show exB s p x (i + 1) = true by unfold exB; rw [hb]; rfl] at ih
        exact ite_n (by decide) ih
      | false =>
        refine ite_p rfl ⟨vin_n (by omega) (by decide), ?_⟩
        by_cases e : nI (dg s p i) = x
        · rw [show exB s p x (i + 1) = true by unfold exB; simp [e]] at ih
          exact ite_p e ih
        · rw [show exB s p x (i + 1) = false by unfold exB; rw [hb]; simp [e]] at ih
          exact ite_n e ih
  apply wp_X9_mayBe_64
  exact key (dn s p) 0 (by omega)
def ckF (n np : Nat) (P : Nat → Bool) : Nat → Nat → Int32
  | 0, i => if i = n ∧ i = np then 0 else nI (1 + i)
  | m + 1, i => if i < n ∧ i < np ∧ P i = true then ckF n np P m (i + 1) else if i = n ∧ i = np then 0 else nI (1 + i)
theorem ckF_go {n np : Nat} {P : Nat → Bool} {m i : Nat} (h : i < n ∧ i < np ∧ P i = true) : ckF n np P (m + 1) i = ckF n np P m (i + 1) := if_pos h
theorem ckF_stop {n np : Nat} {P : Nat → Bool} {m i : Nat} (h : ¬ (i < n ∧ i < np ∧ P i = true)) : ckF n np P m i = if i = n ∧ i = np then 0 else nI (1 + i) := by
  cases m with
  | zero => rfl
  | succ m => exact if_neg h
theorem P_check {xs : gX} {d : Nat} {M : Mem} (hI : Inv M) : PB xs d mX8_check mX9_check [] M := by
  obtain ⟨⟨v1, i1⟩, ⟨v2, i2⟩, ⟨v3, i3⟩, ⟨v4, i4⟩, i5⟩ := id hI.1
  have hT0 : M.1 65 1 = nI (N (M.1 65) 1) := v2.1
  have hT1 : M.1 20 1 = nI (N (M.1 65) 1) := i2.1.trans v2.1
  have hTn := v2.2.1
  have hP0 : M.1 65 2 = nI (N (M.1 65) 2) := v3.1
  have hP1 : M.1 22 2 = nI (N (M.1 65) 2) := i3.1.trans v3.1
  have hPn := v3.2.1
  have hS0 : M.1 65 0 = nI (ns (M.1 65)) := v1.1
  have hS1 : M.1 15 4 = nI (ns (M.1 65)) := i1.1.trans v1.1
  have hSn := v1.2.1
  obtain ⟨c1, c2, c3, c4, c5, c6, c7⟩ := id i4
  obtain ⟨n, hn, en⟩ : ∃ n, n < 25 ∧ M.1 65 7 = nI n := ⟨_, (vin_get v4.2.2.2.2 (by decide)).2, (vin_get v4.2.2.2.2 (by decide)).1⟩
  have hnN : N (M.1 65) 7 = n := by unfold N; rw [en, nn_at (by omega)]
  have en1 : M.1 1 8 = nI n := c6.trans en
  obtain ⟨M3, hM3⟩ : ∃ M3, M3 = mw (mw M 1 8 0) 65 7 0 := ⟨_, rfl⟩
  have e65 : M3.1 65 = upd (M.1 65) 7 0 := by rw [hM3, mw_at, mw_ne _ _ _ (by decide)]
  have e1 : M3.1 1 = upd (M.1 1) 8 0 := by rw [hM3, mw_ne _ _ _ (by decide), mw_at]
  have eo : ∀ k, k ≠ 1 → k ≠ 65 → M3.1 k = M.1 k := fun k h1 h2 => by rw [hM3, mw_ne _ _ _ h2, mw_ne _ _ _ h1]
  have hI3 : Inv M3 := by
    refine Inv_of hI (fun k hk => eo k (by intro e; subst e; revert hk; decide) (by intro e; subst e; revert hk; decide)) ?_
    rw [e65]
    refine IW_sca hI.1 (fun j h1 h2 => upd_ne _ _ (by omega)) (fun k hk => eo k (by intro e; subst e; revert hk; decide) (by intro e; subst e; revert hk; decide)) ?_ ?_
    · unfold VC N
      rw [upd_ne _ _ (by decide : (3 : Nat) ≠ 7), upd_ne _ _ (by decide : (4 : Nat) ≠ 7), upd_ne _ _ (by decide : (5 : Nat) ≠ 7), upd_ne _ _ (by decide : (6 : Nat) ≠ 7), upd_at]
      exact ⟨v4.1, v4.2.1, v4.2.2.1, fun k hk => by rw [upd_ne _ _ (by omega)]; exact v4.2.2.2.1 k hk, vin_n (n := 0) (by decide) (by decide)⟩
    · unfold SCA N
      rw [e1, upd_ne _ _ (by decide : (9 : Nat) ≠ 8), upd_ne _ _ (by decide : (10 : Nat) ≠ 8), upd_ne _ _ (by decide : (12 : Nat) ≠ 8), upd_ne _ _ (by decide : (11 : Nat) ≠ 8), upd_ne _ _ (by decide : (6 : Nat) ≠ 8), upd_ne _ _ (by decide : (3 : Nat) ≠ 7), upd_ne _ _ (by decide : (8 : Nat) ≠ 7), upd_ne _ _ (by decide : (4 : Nat) ≠ 7), upd_ne _ _ (by decide : (5 : Nat) ≠ 7), upd_ne _ _ (by decide : (6 : Nat) ≠ 7), upd_at, upd_at]
      refine ⟨c1, c2, c3, c4, fun k hk => ?_, rfl, fun k hk => ?_⟩
      · rw [eo _ (by decide) (by decide), upd_ne _ _ (by omega)]; exact c5 k hk
      · exact absurd hk (by show ¬ k < 0; omega)
  obtain ⟨s, hs⟩ : ∃ s, s = M3.1 65 := ⟨_, rfl⟩
  have es : ∀ j, j ≠ 7 → s j = M.1 65 j := fun j hj => by rw [hs, e65, upd_ne _ _ hj]
  obtain ⟨np, hnp⟩ : ∃ np, np = N (M.1 65) 2 := ⟨_, rfl⟩
  have hnp3 : N (M3.1 65) 2 = np := by rw [hnp, ← hs]; unfold N; rw [es 2 (by decide)]
  rw [← hnp] at hP0 hP1 hPn
  have hV : VS s := by rw [hs]; exact hI3.1.1.1
  have hS3 : SKY M3 15 s := by rw [hs]; exact hI3.1.1.2
  have hSc : SKY (mw M 1 8 0) 15 s := SKY_congr hV rfl (fun _ _ _ => rfl) (by rw [mw_ne _ _ _ (by decide), eo _ (by decide) (by decide)]) (by rw [mw_ne _ _ _ (by decide), eo _ (by decide) (by decide)]) (by rw [mw_ne _ _ _ (by decide), eo _ (by decide) (by decide)]) (by rw [mw_ne _ _ _ (by decide), eo _ (by decide) (by decide)]) (by rw [mw_ne _ _ _ (by decide), eo _ (by decide) (by decide)]) hS3
  have hpx : ∀ p, p < np → px s 0 p < 207 ∧ px s 1 p < 365 ∧ (mw M 1 8 0).1 23 p = nI (px s 0 p) ∧ (mw M 1 8 0).1 24 p = nI (px s 1 p) := by
    intro p hp
    obtain ⟨g0, g1, g2, g3, g4, g5⟩ := pxI hI3.1 (p := p) (by rw [hnp3]; exact hp)
    rw [← hs] at g1 g2 g4 g5
    rw [eo _ (by decide) (by decide)] at g4 g5
    rw [mw_ne _ _ _ (by decide), mw_ne _ _ _ (by decide)]
    exact ⟨g1, g2, g4, g5⟩
  obtain ⟨w, hw⟩ : ∃ w, w = M.1 36 := ⟨_, rfl⟩
  have hws : ∀ i, i < n → M.1 65 (394 + i) = w i := fun i hi => by rw [hw]; exact (c7 i (by rw [hnN]; exact hi)).symm
  obtain ⟨P, hPd⟩ : ∃ P : Nat → Bool, P = fun i => mayP s i (w i) && (decide (i = 0) || decide (w (i - 1) < w i)) := ⟨_, rfl⟩
  -- the reference, from the loop on
  have ref : ∀ m i M2, i + m = 24 → i ≤ n → i ≤ np → F1 M3 M2 → MAY M2 s np → GW xs (d + 7) mX9_check 22 [(0, .ref 64), (1, .int (nI n)), (2, .int (nI i))] [] M2 (QI (fun r2 M4 => ckF n np P m i = r2 ∧ Inv M4)) := by
    intro m
    induction m with
    | zero =>
      intro i M2 hi h1 h2 hF hA
      omega
    | succ m ih =>
      intro i M2 hi h1 h2 hF hA
      have r65 : M2.1 65 = s := by rw [hs]; exact (F1s65 hF)
      have np65 : s 2 = nI np := by rw [es 2 (by decide)]; exact hP0
      have fin : ¬ (i < n ∧ i < np ∧ P i = true) → (if nI i = nI n then (if nI i = nI np then (fun r2 (M4 : Mem) => ckF n np P (m + 1) i = r2 ∧ Inv M4) 0 M2 else (fun r2 (M4 : Mem) => ckF n np P (m + 1) i = r2 ∧ Inv M4) (1 + nI i) M2) else (fun r2 (M4 : Mem) => ckF n np P (m + 1) i = r2 ∧ Inv M4) (1 + nI i) M2) := by
        intro hst
        rw [ckF_stop hst, show (1 : Int32) + nI i = nI (1 + i) from nI_add 1 i]
        by_cases q1 : i = n
        · refine ite_p (by rw [q1]) ?_
          by_cases q2 : i = np
          · exact ite_p (by rw [q2]) ⟨if_pos ⟨q1, q2⟩, Inv_scr hI3 hF⟩
          · exact ite_n (nI_ne (by omega) (by omega) q2) ⟨if_neg (fun q => q2 q.2), Inv_scr hI3 hF⟩
        · exact ite_n (nI_ne (by omega) (by omega) q1) ⟨if_neg (fun q => q1 q.1), Inv_scr hI3 hF⟩
      apply wp_X9_check_64_L22
      rw [r65, np65]
      by_cases q1 : i < n
      · refine ite_p (nI_ltI' (by omega) (by omega) q1) (ite_n (nI_lt0 (by omega)) ?_)
        by_cases q2 : i < np
        · have cn := cnt_in (c := nI np) (c' := nI np) (j := i) rfl rfl (by omega) q2
          obtain ⟨g1, g2, g3, g4⟩ := hpx i q2
          have ew : s (394 + i) = w i := by rw [es _ (by omega)]; exact hws i q1
          rw [show 394 + nI i = nI (394 + i) from nI_add 394 i, nn_at (n := 394 + i) (by omega), ew]
          refine ite_n cn.2.2 ⟨vin_n (by omega) (by decide), mayBeR_ok (n := np) hV hA q2 hPn g2 ?_⟩
          rw [r65, np65, ew]
          cases hb : mayP s i (w i) with
          | false => exact ite_p rfl (fin (fun q => by have := q.2.2; rw [hPd] at this; simp [hb] at this))
          | true =>
            refine ite_n (by decide) ?_
            by_cases q0 : i = 0
            · subst q0
              refine ite_p rfl ?_
              rw [ckF_go ⟨q1, q2, by rw [hPd]; simp [hb]⟩]
              exact ih 1 M2 (by omega) (by omega) (by omega) hF hA
            · refine ite_n (nI_ne (b := 0) (by omega) (by decide) q0) ?_
              have ew1 : s (394 + (i - 1)) = w (i - 1) := by rw [es _ (by omega)]; exact hws (i - 1) (by omega)
              rw [show nI (394 + i) - 1 = nI (394 + (i - 1)) by rw [show 394 + i = 394 + (i - 1) + 1 by omega]; exact nI_pred _, nn_at (n := 394 + (i - 1)) (by omega), ew1]
              refine ⟨vin_n (by omega) (by decide), ?_⟩
              by_cases q3 : w (i - 1) < w i
              · refine ite_p q3 ?_
                rw [ckF_go ⟨q1, q2, by rw [hPd]; simp [hb, q3]⟩, nI_1]
                exact ih (i + 1) M2 (by omega) (by omega) (by omega) hF hA
              · exact ite_n q3 (fin (fun q => by have := q.2.2; rw [hPd] at this; simp [q0, q3] at this))
        · exact ite_p (by
            have e : i = np := by omega
            rw [e]
            rcases Nat.eq_zero_or_pos np with h0 | h0
            · rw [h0]; decide
            · rw [show np = np - 1 + 1 by omega, nI_pred]; exact nI_ltI' (by omega) (by omega) (by omega)) (fin (fun q => q2 q.2.1))
      · exact ite_n (nI_nltI (by omega) (by omega) (by omega)) (fin (fun q => q1 q.1))
  have refA : ∀ r, r = ckF n np P 24 0 → MI xs (d + 7) mX9_check [.ref 64] (mw M 1 8 0) (fun r2 M2 => r = r2 ∧ Inv M2) := by
    intro r hr
    subst hr
    apply wp_X9_check_64
    rw [mw_ne _ _ _ (by decide : (65 : Nat) ≠ 1), en, ← hM3]
    refine findMay_ok hI3.1 F1.rfl' (fun M2 y1 y2 y3 => ?_)
    rw [hnp3, ← hs] at y3
    exact ref 24 0 M2 (by omega) (by omega) (by omega) y2 y3
  have cls : ∀ m i, i + m = 24 → i ≤ n → i ≤ np → ckF n np P m i = ckF n np P 24 0 → GW xs (d + 7) mX8_check 33 [(0, .ref 0), (1, .int (nI n)), (2, .int (nI (max n np))), (3, .int (nI i))] [] (mw M 1 8 0) (QI (fun r1 M1 => MI xs (d + 7) mX9_check [.ref 64] M1 (fun r2 M2 => r1 = r2 ∧ Inv M2))) := by
    intro m
    induction m with
    | zero => intro i hi h1 h2 _; omega
    | succ m ih =>
      intro i hi h1 h2 hc
      apply wp_X8_check_0_L33
      rw [mw_ne _ _ _ (by decide : (22 : Nat) ≠ 1), mw_ne _ _ _ (by decide : (36 : Nat) ≠ 1), hP1, ← hw, nn_at (n := i) (by omega), show (1 : Int32) + nI i = nI (1 + i) from nI_add 1 i, nI_1]
      by_cases q1 : i < n
      · refine ite_p (nI_ltI' (by omega) (by omega) (by omega)) (ite_p (nI_ltI' (by omega) (by omega) q1) ?_)
        by_cases q2 : i < np
        · obtain ⟨g1, g2, g3, g4⟩ := hpx i q2
          refine ite_p (nI_ltI' (by omega) (by omega) q2) ?_
          have bad : ¬ (P i = true) → MI xs (d + 7) mX9_check [.ref 64] (mw M 1 8 0) (fun r2 M2 => nI (1 + i) = r2 ∧ Inv M2) := fun q => refA _ (by rw [← hc, ckF_stop (fun z => q z.2.2), if_neg (fun z => by omega)])
          by_cases q0 : i = 0
          · subst q0
            refine ite_p rfl ⟨vin_n (by omega) (by decide), mayBeC_ok hV hSc (by omega) g1 g2 g3 g4 ?_⟩
            cases hb : mayP s 0 (w 0) with
            | false => exact ite_p rfl (bad (fun q => by rw [hPd] at q; simp [hb] at q))
            | true =>
              rw [ckF_go ⟨q1, q2, by rw [hPd]; simp [hb]⟩] at hc
              exact ite_n (by decide) (ih 1 (by omega) (by omega) (by omega) hc)
          · refine ite_n (nI_ne (b := 0) (by omega) (by decide) q0) ?_
            rw [show nI i - 1 = nI (i - 1) by rw [show nI i = nI (i - 1 + 1) by rw [show i - 1 + 1 = i by omega]]; exact nI_pred _, nn_at (n := i - 1) (by omega)]
            refine ⟨vin_n (by omega) (by decide), vin_n (by omega) (by decide), ?_⟩
            by_cases q3 : w (i - 1) < w i
            · refine ite_p q3 (mayBeC_ok hV hSc (by omega) g1 g2 g3 g4 ?_)
              cases hb : mayP s i (w i) with
              | false => exact ite_p rfl (bad (fun q => by rw [hPd] at q; simp [hb] at q))
              | true =>
                rw [ckF_go ⟨q1, q2, by rw [hPd]; simp [hb, q3]⟩] at hc
                exact ite_n (by decide) (ih (i + 1) (by omega) (by omega) (by omega) hc)
            · exact ite_n q3 (bad (fun q => by rw [hPd] at q; simp [q0, q3] at q))
        · refine ite_n (nI_nltI (by omega) (by omega) (by omega)) (refA _ ?_)
          rw [← hc, ckF_stop (fun z => q2 z.2.1), if_neg (fun z => by omega)]
      · by_cases q2 : i < np
        · refine ite_p (nI_ltI' (by omega) (by omega) (by omega)) (ite_n (nI_nltI (by omega) (by omega) (by omega)) (refA _ ?_))
          rw [← hc, ckF_stop (fun z => q1 z.1), if_neg (fun z => by omega)]
        · refine ite_n (nI_nltI (by omega) (by omega) (by omega)) (refA _ ?_)
          rw [← hc, ckF_stop (fun z => q1 z.1), if_pos ⟨by omega, by omega⟩]
  apply wp_X8_check_0
  rw [en1, hP1, show gmax (nI n) (nI np) = nI (max n np) by
    unfold gmax
    by_cases q : n < np
    · rw [if_pos (nI_ltI' (by omega) (by omega) q), Nat.max_eq_right (by omega)]
    · rw [if_neg (nI_nltI (by omega) (by omega) (by omega)), Nat.max_eq_left (by omega)]]
  exact cls 24 0 (by omega) (by omega) (by omega) rfl
