/-! ===== text ===== -/
theorem Inv_text {M M2 : Mem} (hI : Inv M) (u : Nat) (hu : u < 2) (h1 : M2.1 1 = upd (M.1 1) 6 0) (h6 : M2.1 65 6 = 0) (hs : ∀ i, i ≠ 6 → (i < 84 + 125 * u ∨ 84 + 125 * u + 125 ≤ i) → M2.1 65 i = M.1 65 i) (hL : LAWS M2 15 (M2.1 65)) (h642 : M2.1 64 2 = M.1 64 2) (h6418 : M2.1 64 18 = M.1 64 18) (ho : ∀ k, k ∉ [1, 3, 61, 62, 29, 30, 32, 33, 64, 65, 69] → M2.1 k = M.1 k) : Inv M2 := by
  obtain ⟨j1, j2, j3, j4, j5⟩ := id hI
  obtain ⟨⟨v1, i1⟩, ⟨v2, i2⟩, ⟨v3, i3⟩, ⟨v4, i4⟩, i5⟩ := j1
  obtain ⟨c1, c2, c3, c4, c5, c6, c7⟩ := i4
  have b7 := (vin_get v4.2.2.2.2 (by decide)).2
  have e7 : N (M2.1 65) 7 = N (M.1 65) 7 := by unfold N; rw [hs 7 (by decide) (by omega)]
  have e6 : N (M2.1 65) 6 = 0 := by unfold N; rw [h6]; rfl
  refine ⟨⟨⟨VS_congr (hs _ (by omega) (by omega)) (fun j _ _ => hs j (by omega) (by omega)) v1, SKY_congr v1 (hs _ (by omega) (by omega)) (fun j _ _ => hs j (by omega) (by omega)) (by rw [ho 15 (by decide)]) (ho _ (by decide)) (ho _ (by decide)) (ho _ (by decide)) (ho _ (by decide)) i1⟩, ⟨VT_congr (hs _ (by omega) (by omega)) (fun j _ _ => hs j (by omega) (by omega)) v2, ROL_congr v2 (hs _ (by omega) (by omega)) (fun j _ _ => hs j (by omega) (by omega)) (ho _ (by decide)) (ho _ (by decide)) i2⟩, ⟨VP_congr (hs _ (by omega) (by omega)) (fun j _ _ => hs j (by omega) (by omega)) v3, PIL_congr v3 (hs _ (by omega) (by omega)) (fun j _ _ => hs j (by omega) (by omega)) (ho _ (by decide)) (ho _ (by decide)) (ho _ (by decide)) i3⟩, ⟨?_, ?_⟩, hL⟩, IMG_frame (fun k hk => ho k (by intro e; revert e hk; unfold wc; simp only [List.mem_cons, List.not_mem_nil, or_false]; omega)) (by rw [ho 0 (by decide)]) h642 (ho 66 (by decide)) j2, fun k hk => by rw [ho 6 (by decide), ho 67 (by decide)]; exact j3 k hk, TRC_frame (by rw [ho 4 (by decide)]) h6418 (ho 63 (by decide)) (ho 77 (by decide)) j4, SHE_frame (fun k hk => ho k (by intro e; revert e hk; simp only [List.mem_cons, List.not_mem_nil, or_false]; omega)) j5⟩
  · refine ⟨by rw [hs 3 (by decide) (by omega)]; exact v4.1, by rw [hs 4 (by decide) (by omega), hs 5 (by decide) (by omega)]; exact v4.2.1, by rw [h6]; exact vin_n (n := 0) (by decide) (by decide), fun k hk => ?_, by rw [hs 7 (by decide) (by omega)]; exact v4.2.2.2.2⟩
    rw [e6] at hk; exact absurd hk (Nat.not_lt_zero k)
  · unfold SCA
    rw [h1, upd_ne _ _ (by decide), upd_ne _ _ (by decide), upd_ne _ _ (by decide), upd_ne _ _ (by decide), upd_at, upd_ne _ _ (by decide), hs 3 (by decide) (by omega), hs 8 (by decide) (by omega), hs 4 (by decide) (by omega), hs 5 (by decide) (by omega), h6, hs 7 (by decide) (by omega), e6, e7]
    refine ⟨c1, c2, c3, rfl, fun k hk => absurd hk (Nat.not_lt_zero k), c6, fun k hk => ?_⟩
    rw [ho _ (by decide), hs _ (by omega) (by unfold N at hk; omega)]
    exact c7 k hk
theorem LAW_new {sz sd : Int32} {cd s : Nat → Int32} {u : Nat} {C : List (Nat × Nat)} (h0 : dep C 0 = some 1) (hok : ∀ x, x ∈ C → okS x) (hC : C.length ≤ 60) (h1 : sz = nI C.length) (h2 : sd = 1) (h3 : ∀ k, k < C.length → cd k = cc (C.getD k (0, 0))) (h4 : s (84 + 125 * u) = nI C.length) (h5 : ∀ k, k < C.length → s (84 + 125 * u + 1 + 2 * k) = nI (C.getD k (0, 0)).1 ∧ s (84 + 125 * u + 2 + 2 * k) = rv u (C.getD k (0, 0))) : LAW sz sd cd u s := by
  have hpos : 1 ≤ C.length := by
    cases C with
    | nil => cases h0
    | cons x L => exact Nat.succ_pos _
  have hmem : ∀ k, k < C.length → C.getD k (0, 0) ∈ C := by
    clear h0 hok hC h1 h3 h4 h5 hpos
    induction C with
    | nil => intro k hk; exact absurd hk (Nat.not_lt_zero k)
    | cons x L ih =>
      intro k hk
      cases k with
      | zero => exact List.mem_cons_self
      | succ k => exact List.mem_cons_of_mem _ (ih k (Nat.lt_of_succ_lt_succ hk))
  refine ⟨by rw [h1]; exact vin_n (by omega) (by decide), .inr ⟨C.length, hpos, hC, h4, h2, h1, fun k hk => ?_, ?_⟩⟩
  · have a := hok _ (hmem k hk)
    obtain ⟨b1, b2⟩ := h5 k hk
    rw [h3 k hk, b1, b2]
    revert a
    generalize C.getD k (0, 0) = x
    obtain ⟨w, v⟩ := x
    intro a
    rcases a with ⟨e, hv⟩ | ⟨e, hv⟩ | ⟨e, hv⟩ | ⟨e, hv⟩
    · have e : w = 0 := e
      subst e
      exact .inl ⟨rfl, v, hv, rfl, rfl⟩
    · have e : w = 1 := e
      subst e
      exact .inr (.inl ⟨rfl, v, hv, rfl, rfl⟩)
    · have e : w = 2 := e
      subst e
      exact .inr (.inr (.inl ⟨rfl, rfl⟩))
    · have e : w = 3 := e
      subst e
      exact .inr (.inr (.inr ⟨rfl, v, hv, rfl, rfl⟩))
  · exact dep_WF C _ 0 1 h0 hok (fun k hk => (h5 k hk).1)
abbrev pzT (t : Nat → Nat) (n u : Nat) : PR := pz t n u 486 0 0 0 0
/-- the class reads the tape -/
def KM (M M3 : Mem) : Prop := ∀ k, k ≠ 3 → k ≠ 61 → k ≠ 62 → M3.1 k = M.1 k

theorem reads_0 {xs : gX} {d : Nat} {M : Mem} {Q : Int32 → Mem → Prop} {t : Nat → Nat} {n : Nat} (hn : n ≤ 60) (ht : ∀ i, i < n → t i < 256) (htp : ∀ i, i < n → M.1 35 i = nI (t i)) (hok : (pzT t n 0).1 = true → (pzT t n 0).2.1 = n → ∀ M3, KM M M3 → M3.1 3 2 = nI (pzT t n 0).2.2.length → (∀ i, i < (pzT t n 0).2.2.length → M3.1 62 i = cc ((pzT t n 0).2.2.getD i (0, 0))) → Q 1 M3) (hno : ¬ ((pzT t n 0).1 = true ∧ (pzT t n 0).2.1 = n) → ∀ M3, KM M M3 → M3.1 3 4 = nI (pzT t n 0).2.1 → Q 0 M3) : MI xs (d + 51) mX4_reads [.ref 3, .ref 35, .int (nI n), .ref 1001] M Q := by
  apply wp_X4_reads_3_35_1001
  rw [gmin60 hn, nn_at (n := n) (by omega)]
  refine ⟨cpk60 hn, ?_⟩
  obtain ⟨Ms, hMs⟩ : ∃ Ms, Ms = mw (mw (mw (mwA (mw M 3 3 (nI n)) 61 (va_cpy (M.1 35) (M.1 61) 0 0 n)) 3 5 1) 3 4 0) 3 2 0 := ⟨_, rfl⟩
  rw [← hMs]
  have e3 : Ms.1 3 = upd (upd (upd (upd (M.1 3) 3 (nI n)) 5 1) 4 0) 2 0 := by rw [hMs]; rfl
  have e61 : Ms.1 61 = va_cpy (M.1 35) (M.1 61) 0 0 n := by rw [hMs]; rfl
  have eo : ∀ k, k ≠ 3 → k ≠ 61 → Ms.1 k = M.1 k := fun k h1 h2 => by rw [hMs, mw_ne _ _ _ h1, mw_ne _ _ _ h1, mw_ne _ _ _ h1, mwA_ne _ _ h2, mw_ne _ _ _ h1]
  have hK : KS Ms t n 0 0 [] Ms := by
    refine ⟨⟨?_, fun i hi => ?_, ?_, ?_, fun k _ _ => rfl⟩, ?_, fun i hi => absurd hi (Nat.not_lt_zero i)⟩
    · rw [e3, upd_ne _ _ (by decide), upd_ne _ _ (by decide), upd_ne _ _ (by decide), upd_at]
    · rw [e61, cpy0 hi]; exact htp i hi
    · rw [e3, upd_ne _ _ (by decide), upd_ne _ _ (by decide), upd_at]; rfl
    · rw [e3, upd_ne _ _ (by decide), upd_at]; rfl
    · rw [e3, upd_at]; rfl
  refine (classC (xs := xs) (M0 := Ms) hn (by decide : 0 < 2) ht 486).1 0 0 0 [] Ms (d + 50) _ (by omega) (by omega) (by omega) (Nat.le_refl 0) (by omega) (by omega) hK (fun M3 h3 => ?_)
  have h3 : KR Ms t n 0 [] (pzT t n 0) M3 := h3
  show if b2 (pzT t n 0).1 = 0 then Q 0 M3 else (if (M3.1 3 4) = (M3.1 3 3) then Q 1 M3 else Q 0 M3)
  have gd := pzP (t := t) (n := n) (u := 0) 486 0 0 0 0 (Nat.zero_le _) (by omega)
  have g1 : (pzT t n 0).2.1 ≤ n := gd.2.1
  cases hb : (pzT t n 0).1 with
  | false =>
    have kf := h3.2 hb
    have km : KM M M3 := fun k z1 z2 z3 => by rw [kf.1.2.2.2.2 k z1 z3, eo k z1 z2]
    exact ite_p rfl (hno (fun z => by rw [hb] at z; cases z.1) M3 km kf.1.2.2.2.1)
  | true =>
    have ks := h3.1 hb
    rw [List.nil_append] at ks
    have km : KM M M3 := fun k z1 z2 z3 => by rw [ks.1.2.2.2.2 k z1 z3, eo k z1 z2]
    refine ite_n (by decide) ?_
    rw [ks.1.2.2.2.1, ks.1.1]
    by_cases q : (pzT t n 0).2.1 = n
    · exact ite_p (by rw [q]) (hok hb q M3 km ks.2.1 ks.2.2)
    · exact ite_n (nI_ne (by omega) (by omega) q) (hno (fun z => q z.2) M3 km ks.1.2.2.2.1)
theorem reads_1 {xs : gX} {d : Nat} {M : Mem} {Q : Int32 → Mem → Prop} {t : Nat → Nat} {n : Nat} (hn : n ≤ 60) (ht : ∀ i, i < n → t i < 256) (htp : ∀ i, i < n → M.1 35 i = nI (t i)) (hok : (pzT t n 1).1 = true → (pzT t n 1).2.1 = n → ∀ M3, KM M M3 → M3.1 3 2 = nI (pzT t n 1).2.2.length → (∀ i, i < (pzT t n 1).2.2.length → M3.1 62 i = cc ((pzT t n 1).2.2.getD i (0, 0))) → Q 1 M3) (hno : ¬ ((pzT t n 1).1 = true ∧ (pzT t n 1).2.1 = n) → ∀ M3, KM M M3 → M3.1 3 4 = nI (pzT t n 1).2.1 → Q 0 M3) : MI xs (d + 51) mX4_reads [.ref 3, .ref 35, .int (nI n), .ref 1002] M Q := by
  apply wp_X4_reads_3_35_1002
  rw [gmin60 hn, nn_at (n := n) (by omega)]
  refine ⟨cpk60 hn, ?_⟩
  obtain ⟨Ms, hMs⟩ : ∃ Ms, Ms = mw (mw (mw (mwA (mw M 3 3 (nI n)) 61 (va_cpy (M.1 35) (M.1 61) 0 0 n)) 3 5 2) 3 4 0) 3 2 0 := ⟨_, rfl⟩
  rw [← hMs]
  have e3 : Ms.1 3 = upd (upd (upd (upd (M.1 3) 3 (nI n)) 5 2) 4 0) 2 0 := by rw [hMs]; rfl
  have e61 : Ms.1 61 = va_cpy (M.1 35) (M.1 61) 0 0 n := by rw [hMs]; rfl
  have eo : ∀ k, k ≠ 3 → k ≠ 61 → Ms.1 k = M.1 k := fun k h1 h2 => by rw [hMs, mw_ne _ _ _ h1, mw_ne _ _ _ h1, mw_ne _ _ _ h1, mwA_ne _ _ h2, mw_ne _ _ _ h1]
  have hK : KS Ms t n 1 0 [] Ms := by
    refine ⟨⟨?_, fun i hi => ?_, ?_, ?_, fun k _ _ => rfl⟩, ?_, fun i hi => absurd hi (Nat.not_lt_zero i)⟩
    · rw [e3, upd_ne _ _ (by decide), upd_ne _ _ (by decide), upd_ne _ _ (by decide), upd_at]
    · rw [e61, cpy0 hi]; exact htp i hi
    · rw [e3, upd_ne _ _ (by decide), upd_ne _ _ (by decide), upd_at]; rfl
    · rw [e3, upd_ne _ _ (by decide), upd_at]; rfl
    · rw [e3, upd_at]; rfl
  refine (classC (xs := xs) (M0 := Ms) hn (by decide : 1 < 2) ht 486).1 0 0 0 [] Ms (d + 50) _ (by omega) (by omega) (by omega) (Nat.le_refl 0) (by omega) (by omega) hK (fun M3 h3 => ?_)
  have h3 : KR Ms t n 1 [] (pzT t n 1) M3 := h3
  show if b2 (pzT t n 1).1 = 0 then Q 0 M3 else (if (M3.1 3 4) = (M3.1 3 3) then Q 1 M3 else Q 0 M3)
  have gd := pzP (t := t) (n := n) (u := 1) 486 0 0 0 0 (Nat.zero_le _) (by omega)
  have g1 : (pzT t n 1).2.1 ≤ n := gd.2.1
  cases hb : (pzT t n 1).1 with
  | false =>
    have kf := h3.2 hb
    have km : KM M M3 := fun k z1 z2 z3 => by rw [kf.1.2.2.2.2 k z1 z3, eo k z1 z2]
    exact ite_p rfl (hno (fun z => by rw [hb] at z; cases z.1) M3 km kf.1.2.2.2.1)
  | true =>
    have ks := h3.1 hb
    rw [List.nil_append] at ks
    have km : KM M M3 := fun k z1 z2 z3 => by rw [ks.1.2.2.2.2 k z1 z3, eo k z1 z2]
    refine ite_n (by decide) ?_
    rw [ks.1.2.2.2.1, ks.1.1]
    by_cases q : (pzT t n 1).2.1 = n
    · exact ite_p (by rw [q]) (hok hb q M3 km ks.2.1 ks.2.2)
    · exact ite_n (nI_ne (by omega) (by omega) q) (hno (fun z => q z.2) M3 km ks.1.2.2.2.1)
theorem P_text {xs : gX} {d : Nat} {M : Mem} (hI : Inv M) (a : Int32) : PB xs (d + 46) mX8_text mX9_text [.int a] M := by
  obtain ⟨⟨v1, i1⟩, ⟨v2, i2⟩, ⟨v3, i3⟩, ⟨v4, i4⟩, i5⟩ := id hI.1
  have hT0 : M.1 65 1 = nI (N (M.1 65) 1) := v2.1
  have hT1 : M.1 20 1 = nI (N (M.1 65) 1) := i2.1.trans v2.1
  have hTn := v2.2.1
  have hP0 : M.1 65 2 = nI (N (M.1 65) 2) := v3.1
  have hP1 : M.1 22 2 = nI (N (M.1 65) 2) := i3.1.trans v3.1
  have hPn := v3.2.1
  have hS0 : M.1 65 0 = nI (ns (M.1 65)) := v1.1
  have hS1 : M.1 15 4 = nI (ns (M.1 65)) := i1.1.trans v1.1
  have hSn := v1.2.1
  rcases arg3 a 2 (by decide) with h | ⟨h0, h1⟩ | ⟨ja, hja, rfl⟩
  · apply wp_X8_text_0
    refine (ite_p h ?_)
    apply wp_X9_text_64
    exact (ite_p h ⟨rfl, Inv_err hI 1⟩)
  · apply wp_X8_text_0
    refine (ite_n h0 (ite_n h1 ?_))
    apply wp_X9_text_64
    exact (ite_n h0 (ite_p (ar_out (n := 1) rfl rfl (by decide) h1) ⟨rfl, Inv_err hI 1⟩))
  obtain ⟨a1, a2, a3⟩ := ar_in (n := 1) (x := 2) (y := 1) rfl rfl hja (by decide)
  obtain ⟨c1, c2, c3, c4, c5, c6, c7⟩ := id i4
  obtain ⟨n, hn, en⟩ : ∃ n, n < 61 ∧ M.1 65 6 = nI n := ⟨_, (vin_get v4.2.2.1 (by decide)).2, (vin_get v4.2.2.1 (by decide)).1⟩
  have hn60 : n ≤ 60 := by omega
  have nN : N (M.1 65) 6 = n := by unfold N; rw [en, nn_at (by omega)]
  obtain ⟨t, htd⟩ : ∃ t : Nat → Nat, t = fun i => (M.1 65 (334 + i)).toNatClampNeg := ⟨_, rfl⟩
  have hs : ∀ i, i < n → M.1 65 (334 + i) = nI (t i) ∧ t i < 256 := by
    intro i hi
    have := vin_get (v4.2.2.2.1 i (by rw [nN]; exact hi)) (by decide)
    rw [htd]
    exact this
  have ht : ∀ i, i < n → t i < 256 := fun i hi => (hs i hi).2
  have htp : ∀ i, i < n → M.1 35 i = nI (t i) := fun i hi => by rw [← (hs i hi).1]; exact c5 i (by rw [nN]; exact hi)
  have en1 : M.1 1 6 = nI n := c4.trans en
  have gd := pzP (t := t) (n := n) (u := ja) 486 0 0 0 0 (Nat.zero_le _) (by omega)
  -- the reference
  have ref : ∀ (Mc : Mem) (Q : Int32 → Mem → Prop), Mc.1 65 = M.1 65 → Mc.1 64 = M.1 64 → (¬ ((pzT t n ja).1 = true ∧ (pzT t n ja).2.1 = n) → ∀ M4, RX Mc (pzT t n ja).2.1 M4 → Q ((-10) - nI (pzT t n ja).2.1) (mw M4 65 6 0)) → ((pzT t n ja).1 = true → (pzT t n ja).2.1 = n → ∀ M4 (g : Nat → Int32), RX Mc (pzT t n ja).2.1 M4 → (∀ i, i ≠ 6 → (i < 84 + 125 * ja ∨ 84 + 125 * ja + 125 ≤ i) → g i = M.1 65 i) → g 6 = 0 → g (84 + 125 * ja) = nI (pzT t n ja).2.2.length → (∀ k, k < (pzT t n ja).2.2.length → g (84 + 125 * ja + 1 + 2 * k) = nI ((pzT t n ja).2.2.getD k (0, 0)).1 ∧ g (84 + 125 * ja + 2 + 2 * k) = rv ja ((pzT t n ja).2.2.getD k (0, 0))) → Q 1 (mwA M4 65 g)) → MI xs (d + 46 + 7) mX9_text [.ref 64, .int (nI ja)] Mc Q := by
    intro Mc Q e65 e64 hno hok
    apply wp_X9_text_64
    refine (ite_n a1 (ite_n a3 ?_))
    obtain ⟨Ms, hMs⟩ : ∃ Ms, Ms = mw (mw (mw (mw Mc 64 8 (nI ja)) 64 5 0) 64 6 0) 64 7 0 := ⟨_, rfl⟩
    rw [← hMs]
    have r64 : Ms.1 64 = upd (upd (upd (upd (Mc.1 64) 8 (nI ja)) 5 0) 6 0) 7 0 := by rw [hMs]; rfl
    have ro : ∀ k, k ≠ 64 → Ms.1 k = Mc.1 k := fun k h => by rw [hMs, mw_ne _ _ _ h, mw_ne _ _ _ h, mw_ne _ _ _ h, mw_ne _ _ _ h]
    have hT : TP Mc t n := ⟨by rw [e65]; exact en, fun i hi => by rw [e65]; exact (hs i hi).1⟩
    have hR : RT Mc ja 0 0 [] Ms := by
      refine ⟨⟨?_, ?_, ?_, fun k h1 _ => ro k h1⟩, ?_, ?_, ?_, fun i hi => absurd hi (Nat.not_lt_zero i)⟩
      · rw [r64, upd_ne _ _ (by decide), upd_ne _ _ (by decide), upd_at]; rfl
      · rw [r64, upd_ne _ _ (by decide), upd_ne _ _ (by decide), upd_ne _ _ (by decide), upd_ne _ _ (by decide)]
      · rw [r64, upd_ne _ _ (by decide), upd_ne _ _ (by decide), upd_ne _ _ (by decide), upd_ne _ _ (by decide)]
      · rw [r64, upd_ne _ _ (by decide), upd_at]; rfl
      · rw [r64, upd_at]; rfl
      · rw [r64, upd_ne _ _ (by decide), upd_ne _ _ (by decide), upd_ne _ _ (by decide), upd_at]
    refine (classR (xs := xs) hT hn60 hja ht 486 486 (Nat.le_refl _)).1 0 0 0 [] Ms _ _ (by omega) (by omega) (by omega) (Nat.le_refl 0) (by omega) (by omega) hR (fun M4 h4 => ?_)
    have h4 : RR Mc ja 0 [] (pzT t n ja) M4 := h4
    show if b2 (pzT t n ja).1 = 0 then _ else _
    have g1 : (pzT t n ja).2.1 ≤ n := gd.2.1
    have g2 : (pzT t n ja).2.2.length ≤ (pzT t n ja).2.1 - 0 := gd.2.2.1
    revert hno hok h4 g1 g2
    generalize pzT t n ja = r
    obtain ⟨rb, ra, rs⟩ := r
    intro hno hok h4 g1 g2
    have g1 : ra ≤ n := g1
    have g2 : rs.length ≤ ra - 0 := g2
    cases rb with
    | false =>
      have kf := h4.2 rfl
      refine ite_p rfl ?_
      have hz := hno (fun z => by cases z.1) M4 kf
      rw [← kf.1] at hz
      exact hz
    | true =>
      have ks := h4.1 rfl
      have ks : RT Mc ja ra 0 rs M4 := ks
      refine ite_n (show ¬ b2 true = 0 by decide) ?_
      have m65 : M4.1 65 = M.1 65 := (ks.1.2.2.2 65 (by decide) (by decide)).trans e65
      rw [ks.1.1, m65, en, ks.2.2.1, show 84 + (125 * nI ja) = nI (84 + 125 * ja) by simp only [i_lit, nI_mul, nI_add], nn_at (n := 84 + 125 * ja) (by omega)]
      by_cases q : ra = n
      · refine ite_p (by rw [q]) ⟨vin_n (by omega) (by decide), ?_⟩
        obtain ⟨Mb, hMb⟩ : ∃ Mb, Mb = mw (mw M4 65 6 0) 65 (84 + 125 * ja) (nI rs.length) := ⟨_, rfl⟩
        rw [← hMb]
        have b65 : Mb.1 65 = upd (upd (M.1 65) 6 0) (84 + 125 * ja) (nI rs.length) := by rw [hMb, mw_at, mw_at, m65]
        have bo : ∀ k, k ≠ 65 → Mb.1 k = M4.1 k := fun k h => by rw [hMb, mw_ne _ _ _ h, mw_ne _ _ _ h]
        have key : ∀ m k g, k + m = 2 * rs.length → (∀ j, j < k → g (84 + 125 * ja + 1 + j) = M4.1 69 j) → (∀ x, x < 84 + 125 * ja + 1 ∨ 84 + 125 * ja + 1 + k ≤ x → g x = Mb.1 65 x) → GW xs (d + 46 + 7) mX9_text 103 [(0, .ref 64), (1, .int (nI ja)), (2, .int 1), (3, .int (nI (84 + 125 * ja))), (4, .int (nI k))] [] (mwA Mb 65 g) (QI Q) := by
          intro m
          induction m with
          | zero =>
            intro k g hk hg1 hg2
            apply wp_X9_text_64_L103
            rw [mwA_ne _ _ (by decide : (64 : Nat) ≠ 65), bo 64 (by decide), ks.2.2.1, show 2 * nI rs.length = nI (2 * rs.length) from nI_mul 2 _]
            refine ite_n (nI_nltI (by omega) (by omega) (by omega)) ?_
            have e : mwA Mb 65 g = mwA M4 65 g := by
              rw [hMb]
              show mwA (mwA (mwA M4 65 _) 65 _) 65 g = _
              rw [mwA_mwA, mwA_mwA]
            rw [e]
            refine hok rfl q M4 g ks.1 (fun i z1 z2 => ?_) ?_ ?_ (fun k2 hk2 => ⟨?_, ?_⟩)
            · rw [hg2 i (by omega), b65, upd_ne _ _ (by omega), upd_ne _ _ z1]
            · rw [hg2 6 (by omega), b65, upd_ne _ _ (by omega), upd_at]
            · rw [hg2 _ (by omega), b65, upd_at]
            · have hk2 : k2 < rs.length := hk2
              rw [hg1 (2 * k2) (by omega)]; exact (ks.2.2.2.2 k2 hk2).1
            · have hk2 : k2 < rs.length := hk2
              rw [show 84 + 125 * ja + 2 + 2 * k2 = 84 + 125 * ja + 1 + (2 * k2 + 1) by omega, hg1 (2 * k2 + 1) (by omega)]; exact (ks.2.2.2.2 k2 hk2).2
          | succ m ih =>
            intro k g hk hg1 hg2
            apply wp_X9_text_64_L103
            rw [mwA_ne _ _ (by decide : (64 : Nat) ≠ 65), bo 64 (by decide), ks.2.2.1, show 2 * nI rs.length = nI (2 * rs.length) from nI_mul 2 _, show (nI (84 + 125 * ja) + 1) + nI k = nI (84 + 125 * ja + 1 + k) by rw [nI_1, nI_add], nn_at (n := 84 + 125 * ja + 1 + k) (by omega), nn_at (n := k) (by omega), mwA_ne _ _ (by decide : (69 : Nat) ≠ 65), bo 69 (by decide), mw_mwA, show nI k + 1 = nI (k + 1) from nI_1 _]
            refine ite_p (nI_ltI' (by omega) (by omega) (by omega)) ⟨vin_n (by omega) (by decide), vin_n (by omega) (by decide), ih (k + 1) _ (by omega) (fun j hj => ?_) (fun x hx => ?_)⟩
            · by_cases e : j = k
              · subst e; rw [upd_at]
              · rw [upd_ne _ _ (by omega)]; exact hg1 j (by omega)
            · rw [upd_ne _ _ (by omega)]; exact hg2 x (by omega)
        have k0 := key (2 * rs.length) 0 (Mb.1 65) (by omega) (fun j hj => absurd hj (Nat.not_lt_zero j)) (fun _ _ => rfl)
        rw [mwA_self] at k0
        exact k0
      · refine ite_n (nI_ne (by omega) (by omega) q) ?_
        exact hno (fun z => q z.2) M4 ks.1
  -- a fault
  have bad : ∀ M3, KM M M3 → ¬ ((pzT t n ja).1 = true ∧ (pzT t n ja).2.1 = n) → MI xs (d + 46 + 7) mX9_text [.ref 64, .int (nI ja)] (mw M3 1 6 0) (fun r2 M2 => (-10) - nI (pzT t n ja).2.1 = r2 ∧ Inv M2) := by
    intro M3 km hn'
    have f1 : ∀ k, k ≠ 1 → k ≠ 3 → k ≠ 61 → k ≠ 62 → (mw M3 1 6 0).1 k = M.1 k := fun k h1 h2 h3 h4 => by rw [mw_ne _ _ _ h1, km k h2 h3 h4]
    refine ref _ _ (f1 65 (by decide) (by decide) (by decide) (by decide)) (f1 64 (by decide) (by decide) (by decide) (by decide)) (fun _ M4 h4 => ⟨rfl, ?_⟩) (fun z1 z2 => absurd ⟨z1, z2⟩ hn')
    have f2 : ∀ k, k ≠ 1 → k ≠ 3 → k ≠ 61 → k ≠ 62 → k ≠ 64 → k ≠ 65 → k ≠ 69 → (mw M4 65 6 0).1 k = M.1 k := fun k h1 h2 h3 h5 h6 h7 h8 => by rw [mw_ne _ _ _ h7, h4.2.2.2 k h6 h8, f1 k h1 h2 h3 h5]
    have e65 : (mw M4 65 6 0).1 65 = upd (M.1 65) 6 0 := by rw [mw_at, h4.2.2.2 65 (by decide) (by decide), f1 65 (by decide) (by decide) (by decide) (by decide)]
    refine Inv_text hI ja hja ?_ (by rw [e65, upd_at]) (fun i h1 _ => by rw [e65, upd_ne _ _ h1]) ?_ ?_ ?_ (fun k hk => ?_)
    · rw [mw_ne _ _ _ (by decide), h4.2.2.2 1 (by decide) (by decide), mw_at, km 1 (by decide) (by decide) (by decide)]
    · rw [e65]
      have D7 : ∀ k, k = 29 ∨ k = 30 ∨ k = 32 ∨ k = 33 → (mw M4 65 6 0).1 k = M.1 k := fun k hk => f2 k (by omega) (by omega) (by omega) (by omega) (by omega) (by omega) (by omega)
      exact LAWS_congr (fun j _ _ => upd_ne _ _ (by omega)) (D7 _ (by omega)) (D7 _ (by omega)) (D7 _ (by omega)) (D7 _ (by omega)) i5
    · rw [mw_ne _ _ _ (by decide), h4.2.1, f1 64 (by decide) (by decide) (by decide) (by decide)]
    · rw [mw_ne _ _ _ (by decide), h4.2.2.1, f1 64 (by decide) (by decide) (by decide) (by decide)]
    · simp only [List.mem_cons, List.not_mem_nil, or_false] at hk
      exact f2 k (by omega) (by omega) (by omega) (by omega) (by omega) (by omega) (by omega)
  -- a text is taken
  have good : ∀ Mc : Mem, (pzT t n ja).1 = true → (pzT t n ja).2.1 = n → Mc.1 1 = upd (M.1 1) 6 0 → Mc.1 (29 + 3 * ja) 2 = nI (pzT t n ja).2.2.length → Mc.1 (29 + 3 * ja) 3 = 1 → (∀ i, i < (pzT t n ja).2.2.length → Mc.1 (30 + 3 * ja) i = cc ((pzT t n ja).2.2.getD i (0, 0))) → (∀ k, k ≠ 1 → k ≠ 3 → k ≠ 61 → k ≠ 62 → k ≠ 29 + 3 * ja → k ≠ 30 + 3 * ja → Mc.1 k = M.1 k) → MI xs (d + 46 + 7) mX9_text [.ref 64, .int (nI ja)] Mc (fun r2 M2 => 1 = r2 ∧ Inv M2) := by
    intro Mc hb hat k1 k2 k3 k4 ko
    have lt0 : (pzT t n ja).2.2.length ≤ (pzT t n ja).2.1 - 0 := gd.2.2.1
    have dp : dep (pzT t n ja).2.2 0 = some 1 := ((gd.2.2.2.2 hb).1 (by omega)).2 0
    have ok := gd.2.2.2.1
    refine ref Mc _ (ko 65 (by decide) (by decide) (by decide) (by decide) (by omega) (by omega)) (ko 64 (by decide) (by decide) (by decide) (by decide) (by omega) (by omega)) (fun z => absurd ⟨hb, hat⟩ z) (fun _ _ M4 g h4 z1 z2 z3 z4 => ⟨rfl, ?_⟩)
    have f2 : ∀ k, k ≠ 64 → k ≠ 65 → k ≠ 69 → (mwA M4 65 g).1 k = Mc.1 k := fun k h6 h7 h8 => by rw [mwA_ne _ _ h7, h4.2.2.2 k h6 h8]
    have e65 : (mwA M4 65 g).1 65 = g := mwA_at _ _ _
    refine Inv_text hI ja hja (by rw [f2 1 (by decide) (by decide) (by decide)]; exact k1) (by rw [e65]; exact z2) (fun i h1 h2 => by rw [e65]; exact z1 i h1 h2) ?_ ?_ ?_ (fun k hk => ?_)
    · rw [e65]
      unfold LAWS
      rw [f2 (15 + 14) (by decide) (by decide) (by decide), f2 (15 + 15) (by decide) (by decide) (by decide), f2 (15 + 17) (by decide) (by decide) (by decide), f2 (15 + 18) (by decide) (by decide) (by decide)]
      rcases (show ja = 0 ∨ ja = 1 by omega) with rfl | rfl
      · refine ⟨LAW_new dp ok (by omega) k2 k3 k4 z3 z4, ?_⟩
        rw [ko (15 + 17) (by decide) (by decide) (by decide) (by decide) (by decide) (by decide), ko (15 + 18) (by decide) (by decide) (by decide) (by decide) (by decide) (by decide)]
        exact LAW_congr (fun j _ _ => z1 j (by omega) (by omega)) i5.2
      · refine ⟨?_, LAW_new dp ok (by omega) k2 k3 k4 z3 z4⟩
        rw [ko (15 + 14) (by decide) (by decide) (by decide) (by decide) (by decide) (by decide), ko (15 + 15) (by decide) (by decide) (by decide) (by decide) (by decide) (by decide)]
        exact LAW_congr (fun j _ _ => z1 j (by omega) (by omega)) i5.1
    · rw [mwA_ne _ _ (by decide), h4.2.1, ko 64 (by decide) (by decide) (by decide) (by decide) (by omega) (by omega)]
    · rw [mwA_ne _ _ (by decide), h4.2.2.1, ko 64 (by decide) (by decide) (by decide) (by decide) (by omega) (by omega)]
    · simp only [List.mem_cons, List.not_mem_nil, or_false] at hk
      rw [f2 k (by omega) (by omega) (by omega), ko k (by omega) (by omega) (by omega) (by omega) (by omega) (by omega)]
  have len60 : (pzT t n ja).2.2.length ≤ 60 := by
    have x1 : (pzT t n ja).2.2.length ≤ (pzT t n ja).2.1 - 0 := gd.2.2.1
    have x2 : (pzT t n ja).2.1 ≤ n := gd.2.1
    omega
  rcases (show ja = 0 ∨ ja = 1 by omega) with rfl | rfl
  · apply wp_X8_text_0
    refine (ite_n a1 (ite_p a2 ?_))
    rw [en1]
    refine ite_p rfl (reads_0 hn60 ht htp (fun hb hat M3 km e32 e62 => ?_) (fun hn' M3 km e34 => ?_))
    · refine ite_n (by decide) (ite_n (by decide) ?_)
      rw [e32]
      apply wp_X1_take_29_62
      rw [gmin60 len60, nn_at (n := (pzT t n 0).2.2.length) (by omega)]
      refine ⟨cpk60 len60, ?_⟩
      obtain ⟨Mc, hMc⟩ : ∃ Mc, Mc = mw (mwA (mw (mw M3 1 6 0) 29 2 (nI (pzT t n 0).2.2.length)) 30 (va_cpy ((mw M3 1 6 0).1 62) ((mw M3 1 6 0).1 30) 0 0 (pzT t n 0).2.2.length)) 29 3 1 := ⟨_, rfl⟩
      rw [← hMc]
      have x29 : Mc.1 29 = upd (upd ((mw M3 1 6 0).1 29) 2 (nI (pzT t n 0).2.2.length)) 3 1 := by rw [hMc]; rfl
      refine good Mc hb hat ?_ ?_ ?_ (fun i hi => ?_) (fun k h1 h2 h3 h4 h5 h6 => ?_)
      · rw [hMc, mw_ne _ _ _ (by decide), mwA_ne _ _ (by decide), mw_ne _ _ _ (by decide), mw_at, km 1 (by decide) (by decide) (by decide)]
      · rw [show 29 + 3 * 0 = 29 from rfl, x29, upd_ne _ _ (by decide), upd_at]
      · rw [show 29 + 3 * 0 = 29 from rfl, x29, upd_at]
      · rw [show 30 + 3 * 0 = 30 from rfl, hMc, mw_ne _ _ _ (by decide), mwA_at, cpy0 hi, mw_ne _ _ _ (by decide)]
        exact e62 i hi
      · rw [hMc, mw_ne _ _ _ (by omega), mwA_ne _ _ (by omega), mw_ne _ _ _ (by omega), mw_ne _ _ _ h1, km k h2 h3 h4]
    · refine ite_p rfl ?_
      rw [e34]
      exact bad M3 km hn'
  · apply wp_X8_text_0
    refine (ite_n a1 (ite_p a2 ?_))
    rw [en1]
    refine ite_n (by decide) (reads_1 hn60 ht htp (fun hb hat M3 km e32 e62 => ?_) (fun hn' M3 km e34 => ?_))
    · refine ite_n (by decide) (ite_p rfl ?_)
      rw [e32]
      apply wp_X1_take_32_62
      rw [gmin60 len60, nn_at (n := (pzT t n 1).2.2.length) (by omega)]
      refine ⟨cpk60 len60, ?_⟩
      obtain ⟨Mc, hMc⟩ : ∃ Mc, Mc = mw (mwA (mw (mw M3 1 6 0) 32 2 (nI (pzT t n 1).2.2.length)) 33 (va_cpy ((mw M3 1 6 0).1 62) ((mw M3 1 6 0).1 33) 0 0 (pzT t n 1).2.2.length)) 32 3 1 := ⟨_, rfl⟩
      rw [← hMc]
      have x29 : Mc.1 32 = upd (upd ((mw M3 1 6 0).1 32) 2 (nI (pzT t n 1).2.2.length)) 3 1 := by rw [hMc]; rfl
      refine good Mc hb hat ?_ ?_ ?_ (fun i hi => ?_) (fun k h1 h2 h3 h4 h5 h6 => ?_)
      · rw [hMc, mw_ne _ _ _ (by decide), mwA_ne _ _ (by decide), mw_ne _ _ _ (by decide), mw_at, km 1 (by decide) (by decide) (by decide)]
      · rw [show 29 + 3 * 1 = 32 from rfl, x29, upd_ne _ _ (by decide), upd_at]
      · rw [show 29 + 3 * 1 = 32 from rfl, x29, upd_at]
      · rw [show 30 + 3 * 1 = 33 from rfl, hMc, mw_ne _ _ _ (by decide), mwA_at, cpy0 hi, mw_ne _ _ _ (by decide)]
        exact e62 i hi
      · rw [hMc, mw_ne _ _ _ (by omega), mwA_ne _ _ (by omega), mw_ne _ _ _ (by omega), mw_ne _ _ _ h1, km k h2 h3 h4]
    · refine ite_p rfl ?_
      rw [e34]
      exact bad M3 km hn'
