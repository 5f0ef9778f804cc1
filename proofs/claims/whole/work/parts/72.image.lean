/-! ===== image, restore ===== -/
/-- the world (w, b) of M2 is the world (w', b') of M -/
def CPW (M M2 : Mem) (w b w' b' : Nat) : Prop :=
  (M2.1 b 4 = M.1 b' 4 ∧ ∀ i, i < 6 → M2.1 (b + 1) i = M.1 (b' + 1) i ∧ M2.1 (b + 2) i = M.1 (b' + 2) i ∧ M2.1 (b + 3) i = M.1 (b' + 3) i ∧ M2.1 (b + 4) i = M.1 (b' + 4) i) ∧
  (M2.1 (b + 5) 1 = M.1 (b' + 5) 1 ∧ ∀ i, i < 40 → M2.1 (b + 6) i = M.1 (b' + 6) i) ∧
  (M2.1 (b + 7) 2 = M.1 (b' + 7) 2 ∧ ∀ i, i < 8 → M2.1 (b + 8) i = M.1 (b' + 8) i ∧ M2.1 (b + 9) i = M.1 (b' + 9) i) ∧
  (M2.1 (b + 14) 2 = M.1 (b' + 14) 2 ∧ M2.1 (b + 14) 3 = M.1 (b' + 14) 3 ∧ ∀ i, i < (M.1 (b' + 14) 2).toNatClampNeg → M2.1 (b + 15) i = M.1 (b' + 15) i) ∧
  (M2.1 (b + 17) 2 = M.1 (b' + 17) 2 ∧ M2.1 (b + 17) 3 = M.1 (b' + 17) 3 ∧ ∀ i, i < (M.1 (b' + 17) 2).toNatClampNeg → M2.1 (b + 18) i = M.1 (b' + 18) i) ∧
  (∀ i, i < 60 → M2.1 (b + 20) i = M.1 (b' + 20) i) ∧ (∀ i, i < 24 → M2.1 (b + 21) i = M.1 (b' + 21) i) ∧
  M2.1 w 6 = M.1 w' 6 ∧ M2.1 w 8 = M.1 w' 8 ∧ M2.1 w 9 = M.1 w' 9 ∧ M2.1 w 10 = M.1 w' 10 ∧ M2.1 w 11 = M.1 w' 11 ∧ M2.1 w 12 = M.1 w' 12
theorem LAW_cp {sz sd sz' sd' : Int32} {cd cd' : Nat → Int32} {u : Nat} {s : Nat → Int32} (h1 : sz' = sz) (h2 : sd' = sd) (h3 : ∀ i, i < sz.toNatClampNeg → cd' i = cd i) (h : LAW sz sd cd u s) : LAW sz' sd' cd' u s := by
  subst h1 h2
  refine ⟨h.1, ?_⟩
  rcases h.2 with a | ⟨n, a1, a2, a3, a4, a5, a6, a7⟩
  · exact .inl a
  · refine .inr ⟨n, a1, a2, a3, a4, a5, fun k hk => ?_, a7⟩
    rw [h3 k (by rw [a5, nn_at (by omega)]; exact hk)]
    exact a6 k hk
theorem IW_cp {M M2 : Mem} {w b w' b' : Nat} {s : Nat → Int32} (h : CPW M M2 w b w' b') (hI : IW M w' b' s) : IW M2 w b s := by
  obtain ⟨⟨v1, a0, a1, p, p1, p2, p3⟩, ⟨v2, r1, r2⟩, ⟨v3, q1, q2⟩, ⟨v4, c1, c2, c3, c4, c5, c6, c7⟩, l1, l2⟩ := hI
  obtain ⟨⟨x0, x1⟩, ⟨x2, x3⟩, ⟨x4, x5⟩, ⟨x6, x7, x8⟩, ⟨x9, x10, x11⟩, x12, x13, y6, y8, y9, y10, y11, y12⟩ := h
  have n6 := v1.2.1
  have n10 := v2.2.1
  have n8 := v3.2.1
  have b6 := (vin_get v4.2.2.1 (by decide)).2
  have b7 := (vin_get v4.2.2.2.2 (by decide)).2
  refine ⟨⟨v1, x0.trans a0, fun k hk => ?_, p, fun i hi => ?_, p2, p3⟩, ⟨v2, x2.trans r1, fun t ht w hw => ?_⟩, ⟨v3, x4.trans q1, fun t ht => ?_⟩, ⟨v4, y9.trans c1, y10.trans c2, by rw [y11, y12]; exact c3, y6.trans c4, fun k hk => ?_, y8.trans c6, fun k hk => ?_⟩, LAW_cp x6 x7 x8 l1, LAW_cp x9 x10 x11 l2⟩
  · obtain ⟨z1, z2, z3, -⟩ := x1 k (by omega)
    rw [z1, z2, z3]; exact a1 k hk
  · rw [(x1 i (by omega)).2.2.2]; exact p1 i hi
  · rw [x3 _ (by omega)]; exact r2 t ht w hw
  · obtain ⟨z1, z2⟩ := x5 t (by omega)
    rw [z1, z2]; exact q2 t ht
  · rw [x12 k (by unfold N at hk; omega)]; exact c5 k hk
  · rw [x13 k (by unfold N at hk; omega)]; exact c7 k hk
theorem law_sd {sz sd : Int32} {cd : Nat → Int32} {u : Nat} {s : Nat → Int32} (h : LAW sz sd cd u s) : (sd = 0 ∨ sd = 1) ∧ ∃ n, n ≤ 60 ∧ sz = nI n := by
  refine ⟨?_, ⟨_, ?_, (vin_get h.1 (by decide)).1⟩⟩
  · rcases h.2 with a | ⟨n, a1, a2, a3, a4, -⟩
    · exact .inl a.2
    · exact .inr a4
  · have := (vin_get h.1 (by decide)).2; omega
theorem gmin60 {n : Nat} (h : n ≤ 60) : gmin (nI n) (gmin 60 60) = nI n := by
  rw [show gmin (60 : Int32) 60 = nI 60 from by decide]
  unfold gmin
  rw [if_neg (nI_nltI (by omega) (by omega) h)]
theorem cpk60 {n : Nat} (h : n ≤ 60) : CPK 0 0 (nI n) 60 60 := ⟨by decide, by decide, nI_lt0 (by omega), by rw [nn_at (n := n) (by omega)]; show 0 + n ≤ 60; omega, by rw [nn_at (n := n) (by omega)]; show 0 + n ≤ 60; omega⟩
theorem cpy0 {f g : Nat → Int32} {n i : Nat} (h : i < n) : va_cpy f g 0 0 n i = f i := by
  rw [pk_cpy_in (Nat.zero_le _) (by omega), show 0 + (i - 0) = i by omega]
theorem become21 {xs : gX} {d : Nat} {M : Mem} {Q : Mem → Prop} {s : Nat → Int32} (hI : IW M 1 15 s) (hQ : ∀ M2, CPW M M2 2 38 1 15 → (∀ k, k ∉ [2, 38, 39, 40, 41, 42, 43, 44, 45, 46, 47, 52, 53, 55, 56, 58, 59] → M2.1 k = M.1 k) → Q M2) : MV xs (d + 3) mX7_become [.ref 2, .ref 1] M Q := by
  obtain ⟨-, -, -, -, l1, l2⟩ := hI
  obtain ⟨ls1, n1, ln1, le1⟩ := law_sd l1
  obtain ⟨ls2, n2, ln2, le2⟩ := law_sd l2
  rw [show 15 + 14 = 29 from rfl] at ls1 le1
  rw [show 15 + 17 = 32 from rfl] at ls2 le2
  apply wp_X7_become_2_1
  apply wp_X6_become_38_15
  obtain ⟨M1, hM1⟩ : ∃ M1, M1 = mw (mwA (mwA (mwA (mwA M 39 (va_cpy (M.1 16) (M.1 39) 0 0 6)) 40 (va_cpy (M.1 17) (M.1 40) 0 0 6)) 41 (va_cpy (M.1 18) (M.1 41) 0 0 6)) 42 (va_cpy (M.1 19) (M.1 42) 0 0 6)) 38 4 (M.1 15 4) := ⟨_, rfl⟩
  rw [← hM1]
  have a0 : M1.1 38 4 = M.1 15 4 := by rw [hM1, mw_at, upd_at]
  have a1 : M1.1 39 = va_cpy (M.1 16) (M.1 39) 0 0 6 := by rw [hM1]; rfl
  have a2 : M1.1 40 = va_cpy (M.1 17) (M.1 40) 0 0 6 := by rw [hM1]; rfl
  have a3 : M1.1 41 = va_cpy (M.1 18) (M.1 41) 0 0 6 := by rw [hM1]; rfl
  have a4 : M1.1 42 = va_cpy (M.1 19) (M.1 42) 0 0 6 := by rw [hM1]; rfl
  have ao : ∀ k, k ≠ 38 → k ≠ 39 → k ≠ 40 → k ≠ 41 → k ≠ 42 → M1.1 k = M.1 k := fun k h0 h1 h2 h3 h4 => by rw [hM1, mw_ne _ _ _ h0, mwA_ne _ _ h4, mwA_ne _ _ h3, mwA_ne _ _ h2, mwA_ne _ _ h1]
  clear hM1
  apply wp_X3_become_43_20
  obtain ⟨M2, hM2⟩ : ∃ M2, M2 = mw (mwA M1 44 (va_cpy (M1.1 21) (M1.1 44) 0 0 40)) 43 1 (M1.1 20 1) := ⟨_, rfl⟩
  rw [← hM2]
  have b0 : M2.1 43 1 = M.1 20 1 := by rw [hM2, mw_at, upd_at, ao _ (by decide) (by decide) (by decide) (by decide) (by decide)]
  have b1 : M2.1 44 = va_cpy (M.1 21) (M1.1 44) 0 0 40 := by rw [hM2, mw_ne _ _ _ (by decide), mwA_at, ao 21 (by decide) (by decide) (by decide) (by decide) (by decide)]
  have bo : ∀ k, k ≠ 43 → k ≠ 44 → M2.1 k = M1.1 k := fun k h0 h1 => by rw [hM2, mw_ne _ _ _ h0, mwA_ne _ _ h1]
  clear hM2
  apply wp_X2_become_45_22
  obtain ⟨M3, hM3⟩ : ∃ M3, M3 = mw (mwA (mwA M2 46 (va_cpy (M2.1 23) (M2.1 46) 0 0 8)) 47 (va_cpy (M2.1 24) (M2.1 47) 0 0 8)) 45 2 (M2.1 22 2) := ⟨_, rfl⟩
  rw [← hM3]
  have c0 : M3.1 45 2 = M.1 22 2 := by rw [hM3, mw_at, upd_at, bo 22 (by decide) (by decide), ao 22 (by decide) (by decide) (by decide) (by decide) (by decide)]
  have c1 : M3.1 46 = va_cpy (M.1 23) (M2.1 46) 0 0 8 := by rw [hM3, mw_ne _ _ _ (by decide), mwA_ne _ _ (by decide), mwA_at, bo 23 (by decide) (by decide), ao 23 (by decide) (by decide) (by decide) (by decide) (by decide)]
  have c2 : M3.1 47 = va_cpy (M.1 24) (M2.1 47) 0 0 8 := by rw [hM3, mw_ne _ _ _ (by decide), mwA_at, bo 24 (by decide) (by decide), ao 24 (by decide) (by decide) (by decide) (by decide) (by decide)]
  have co : ∀ k, k ≠ 45 → k ≠ 46 → k ≠ 47 → M3.1 k = M2.1 k := fun k h0 h1 h2 => by rw [hM3, mw_ne _ _ _ h0, mwA_ne _ _ h2, mwA_ne _ _ h1]
  clear hM3
  have o3 : ∀ k, k ∉ [38, 39, 40, 41, 42, 43, 44, 45, 46, 47] → M3.1 k = M.1 k := fun k hk => by
    simp only [List.mem_cons, List.not_mem_nil, or_false] at hk
    rw [co k (by omega) (by omega) (by omega), bo k (by omega) (by omega), ao k (by omega) (by omega) (by omega) (by omega) (by omega)]
  rw [o3 29 (by decide), le1]
  apply wp_X1_take_52_30
  rw [gmin60 ln1, nn_at (n := n1) (by omega)]
  refine ⟨cpk60 ln1, ?_⟩
  obtain ⟨M4, hM4⟩ : ∃ M4, M4 = mw (mwA (mw M3 52 2 (nI n1)) 53 (va_cpy (M3.1 30) (M3.1 53) 0 0 n1)) 52 3 1 := ⟨_, rfl⟩
  rw [← hM4]
  have d0 : M4.1 52 = upd (upd (M3.1 52) 2 (nI n1)) 3 1 := by rw [hM4]; rfl
  have d1 : M4.1 53 = va_cpy (M.1 30) (M3.1 53) 0 0 n1 := by rw [hM4, mw_ne _ _ _ (by decide), mwA_at, o3 30 (by decide)]
  have d2 : ∀ k, k ≠ 52 → k ≠ 53 → M4.1 k = M3.1 k := fun k h0 h1 => by rw [hM4, mw_ne _ _ _ h0, mwA_ne _ _ h1, mw_ne _ _ _ h0]
  clear hM4
  rw [d2 29 (by decide) (by decide), d2 32 (by decide) (by decide), o3 29 (by decide), o3 32 (by decide), le2]
  refine ⟨ls1, ?_⟩
  apply wp_X1_take_55_33
  rw [gmin60 ln2, nn_at (n := n2) (by omega)]
  refine ⟨cpk60 ln2, ?_⟩
  obtain ⟨M6, hM6⟩ : ∃ M6, M6 = mw (mwA (mw (mw M4 52 3 (M.1 29 3)) 55 2 (nI n2)) 56 (va_cpy ((mw M4 52 3 (M.1 29 3)).1 33) ((mw M4 52 3 (M.1 29 3)).1 56) 0 0 n2)) 55 3 1 := ⟨_, rfl⟩
  rw [← hM6]
  have e0 : M6.1 52 = upd (upd (upd (M3.1 52) 2 (nI n1)) 3 1) 3 (M.1 29 3) := by rw [hM6, ← d0]; rfl
  have e1 : M6.1 53 = va_cpy (M.1 30) (M3.1 53) 0 0 n1 := by rw [hM6, ← d1]; rfl
  have e2 : M6.1 55 = upd (upd (M3.1 55) 2 (nI n2)) 3 1 := by rw [hM6, ← d2 55 (by decide) (by decide)]; rfl
  have e3 : M6.1 56 = va_cpy (M.1 33) (M3.1 56) 0 0 n2 := by rw [hM6, ← o3 33 (by decide), ← d2 33 (by decide) (by decide), ← d2 56 (by decide) (by decide)]; rfl
  have eo : ∀ k, k ≠ 52 → k ≠ 53 → k ≠ 55 → k ≠ 56 → M6.1 k = M3.1 k := fun k h0 h1 h2 h3 => by rw [hM6, mw_ne _ _ _ h2, mwA_ne _ _ h3, mw_ne _ _ _ h2, mw_ne _ _ _ h0, d2 k h0 h1]
  clear hM6
  have o6 : ∀ k, k ∉ [38, 39, 40, 41, 42, 43, 44, 45, 46, 47, 52, 53, 55, 56] → M6.1 k = M.1 k := fun k hk => by
    simp only [List.mem_cons, List.not_mem_nil, or_false] at hk
    rw [eo k (by omega) (by omega) (by omega) (by omega), o3 k (by simp only [List.mem_cons, List.not_mem_nil, or_false]; omega)]
  rw [o6 32 (by decide), o6 35 (by decide), o6 36 (by decide), o6 1 (by decide)]
  refine ⟨ls2, ?_⟩
  obtain ⟨M7, hM7⟩ : ∃ M7, M7 = (mw (mw (mw (mw (mw (mwA (mw (mwA (mw M6 55 3 (M.1 32 3)) 58 (va_cpy (M.1 35) (M6.1 58) 0 0 60)) 2 6 (M.1 1 6)) 59 (va_cpy (M.1 36) (M6.1 59) 0 0 24)) 2 8 (M.1 1 8)) 2 9 (M.1 1 9)) 2 10 (M.1 1 10)) 2 11 (M.1 1 11)) 2 12 (M.1 1 12)) := ⟨_, rfl⟩
  rw [← hM7]
  have g0 : M7.1 55 = upd (upd (upd (M3.1 55) 2 (nI n2)) 3 1) 3 (M.1 32 3) := by rw [hM7, ← e2]; rfl
  have g1 : M7.1 58 = va_cpy (M.1 35) (M6.1 58) 0 0 60 := by rw [hM7]; rfl
  have g2 : M7.1 59 = va_cpy (M.1 36) (M6.1 59) 0 0 24 := by rw [hM7]; rfl
  have g3 : M7.1 2 = upd (upd (upd (upd (upd (upd (M6.1 2) 6 (M.1 1 6)) 8 (M.1 1 8)) 9 (M.1 1 9)) 10 (M.1 1 10)) 11 (M.1 1 11)) 12 (M.1 1 12) := by rw [hM7]; rfl
  have go : ∀ k, k ≠ 55 → k ≠ 58 → k ≠ 59 → k ≠ 2 → M7.1 k = M6.1 k := fun k h0 h1 h2 h3 => by rw [hM7, mw_ne _ _ _ h3, mw_ne _ _ _ h3, mw_ne _ _ _ h3, mw_ne _ _ _ h3, mw_ne _ _ _ h3, mwA_ne _ _ h2, mw_ne _ _ _ h3, mwA_ne _ _ h1, mw_ne _ _ _ h0]
  clear hM7
  have lo : ∀ k, k ≠ 55 → k ≠ 58 → k ≠ 59 → k ≠ 2 → k ≠ 52 → k ≠ 53 → k ≠ 56 → M7.1 k = M3.1 k := fun k h0 h1 h2 h3 h4 h5 h6 => by rw [go k h0 h1 h2 h3, eo k h4 h5 h0 h6]
  refine hQ M7 ⟨⟨?_, fun i hi => ⟨?_, ?_, ?_, ?_⟩⟩, ⟨?_, fun i hi => ?_⟩, ⟨?_, fun i hi => ⟨?_, ?_⟩⟩, ⟨?_, ?_, fun i hi => ?_⟩, ⟨?_, ?_, fun i hi => ?_⟩, fun i hi => ?_, fun i hi => ?_, ?_, ?_, ?_, ?_, ?_, ?_⟩ (fun k hk => ?_)
  · rw [lo _ (by decide) (by decide) (by decide) (by decide) (by decide) (by decide) (by decide), co _ (by decide) (by decide) (by decide), bo _ (by decide) (by decide)]; exact a0
  · rw [lo _ (by decide) (by decide) (by decide) (by decide) (by decide) (by decide) (by decide), co _ (by decide) (by decide) (by decide), bo _ (by decide) (by decide)]; rw [show 38 + 1 = 39 from rfl, a1, cpy0 hi]
  · rw [lo _ (by decide) (by decide) (by decide) (by decide) (by decide) (by decide) (by decide), co _ (by decide) (by decide) (by decide), bo _ (by decide) (by decide)]; rw [show 38 + 2 = 40 from rfl, a2, cpy0 hi]
  · rw [lo _ (by decide) (by decide) (by decide) (by decide) (by decide) (by decide) (by decide), co _ (by decide) (by decide) (by decide), bo _ (by decide) (by decide)]; rw [show 38 + 3 = 41 from rfl, a3, cpy0 hi]
  · rw [lo _ (by decide) (by decide) (by decide) (by decide) (by decide) (by decide) (by decide), co _ (by decide) (by decide) (by decide), bo _ (by decide) (by decide)]; rw [show 38 + 4 = 42 from rfl, a4, cpy0 hi]
  · rw [lo _ (by decide) (by decide) (by decide) (by decide) (by decide) (by decide) (by decide), co _ (by decide) (by decide) (by decide)]; exact b0
  · rw [lo _ (by decide) (by decide) (by decide) (by decide) (by decide) (by decide) (by decide), co _ (by decide) (by decide) (by decide), show 38 + 6 = 44 from rfl, b1, cpy0 hi]
  · rw [lo _ (by decide) (by decide) (by decide) (by decide) (by decide) (by decide) (by decide)]; exact c0
  · rw [lo _ (by decide) (by decide) (by decide) (by decide) (by decide) (by decide) (by decide), show 38 + 8 = 46 from rfl, c1, cpy0 hi]
  · rw [lo _ (by decide) (by decide) (by decide) (by decide) (by decide) (by decide) (by decide), show 38 + 9 = 47 from rfl, c2, cpy0 hi]
  · rw [go _ (by decide) (by decide) (by decide) (by decide), show 38 + 14 = 52 from rfl, e0, upd_ne _ _ (by decide), upd_ne _ _ (by decide), upd_at]; exact le1.symm
  · rw [go _ (by decide) (by decide) (by decide) (by decide), show 38 + 14 = 52 from rfl, e0, upd_at]
  · rw [show 15 + 14 = 29 from rfl, le1, nn_at (by omega)] at hi
    rw [go _ (by decide) (by decide) (by decide) (by decide), show 38 + 15 = 53 from rfl, e1, cpy0 hi]
  · rw [show 38 + 17 = 55 from rfl, g0, upd_ne _ _ (by decide), upd_ne _ _ (by decide), upd_at]; exact le2.symm
  · rw [show 38 + 17 = 55 from rfl, g0, upd_at]
  · rw [show 15 + 17 = 32 from rfl, le2, nn_at (by omega)] at hi
    rw [go _ (by decide) (by decide) (by decide) (by decide), show 38 + 18 = 56 from rfl, e3, cpy0 hi]
  · rw [show 38 + 20 = 58 from rfl, g1, cpy0 hi]
  · rw [show 38 + 21 = 59 from rfl, g2, cpy0 hi]
  · rw [g3, upd_ne _ _ (by decide), upd_ne _ _ (by decide), upd_ne _ _ (by decide), upd_ne _ _ (by decide), upd_ne _ _ (by decide), upd_at]
  · rw [g3, upd_ne _ _ (by decide), upd_ne _ _ (by decide), upd_ne _ _ (by decide), upd_ne _ _ (by decide), upd_at]
  · rw [g3, upd_ne _ _ (by decide), upd_ne _ _ (by decide), upd_ne _ _ (by decide), upd_at]
  · rw [g3, upd_ne _ _ (by decide), upd_ne _ _ (by decide), upd_at]
  · rw [g3, upd_ne _ _ (by decide), upd_at]
  · rw [g3, upd_at]
  · simp only [List.mem_cons, List.not_mem_nil, or_false] at hk
    rw [go k (by omega) (by omega) (by omega) (by omega), o6 k (by simp only [List.mem_cons, List.not_mem_nil, or_false]; omega)]
theorem become12 {xs : gX} {d : Nat} {M : Mem} {Q : Mem → Prop} {s : Nat → Int32} (hI : IW M 2 38 s) (hQ : ∀ M2, CPW M M2 1 15 2 38 → (∀ k, k ∉ [1, 15, 16, 17, 18, 19, 20, 21, 22, 23, 24, 29, 30, 32, 33, 35, 36] → M2.1 k = M.1 k) → Q M2) : MV xs (d + 3) mX7_become [.ref 1, .ref 2] M Q := by
  obtain ⟨-, -, -, -, l1, l2⟩ := hI
  obtain ⟨ls1, n1, ln1, le1⟩ := law_sd l1
  obtain ⟨ls2, n2, ln2, le2⟩ := law_sd l2
  rw [show 38 + 14 = 52 from rfl] at ls1 le1
  rw [show 38 + 17 = 55 from rfl] at ls2 le2
  apply wp_X7_become_1_2
  apply wp_X6_become_15_38
  obtain ⟨M1, hM1⟩ : ∃ M1, M1 = mw (mwA (mwA (mwA (mwA M 16 (va_cpy (M.1 39) (M.1 16) 0 0 6)) 17 (va_cpy (M.1 40) (M.1 17) 0 0 6)) 18 (va_cpy (M.1 41) (M.1 18) 0 0 6)) 19 (va_cpy (M.1 42) (M.1 19) 0 0 6)) 15 4 (M.1 38 4) := ⟨_, rfl⟩
  rw [← hM1]
  have a0 : M1.1 15 4 = M.1 38 4 := by rw [hM1, mw_at, upd_at]
  have a1 : M1.1 16 = va_cpy (M.1 39) (M.1 16) 0 0 6 := by rw [hM1]; rfl
  have a2 : M1.1 17 = va_cpy (M.1 40) (M.1 17) 0 0 6 := by rw [hM1]; rfl
  have a3 : M1.1 18 = va_cpy (M.1 41) (M.1 18) 0 0 6 := by rw [hM1]; rfl
  have a4 : M1.1 19 = va_cpy (M.1 42) (M.1 19) 0 0 6 := by rw [hM1]; rfl
  have ao : ∀ k, k ≠ 15 → k ≠ 16 → k ≠ 17 → k ≠ 18 → k ≠ 19 → M1.1 k = M.1 k := fun k h0 h1 h2 h3 h4 => by rw [hM1, mw_ne _ _ _ h0, mwA_ne _ _ h4, mwA_ne _ _ h3, mwA_ne _ _ h2, mwA_ne _ _ h1]
  clear hM1
  apply wp_X3_become_20_43
  obtain ⟨M2, hM2⟩ : ∃ M2, M2 = mw (mwA M1 21 (va_cpy (M1.1 44) (M1.1 21) 0 0 40)) 20 1 (M1.1 43 1) := ⟨_, rfl⟩
  rw [← hM2]
  have b0 : M2.1 20 1 = M.1 43 1 := by rw [hM2, mw_at, upd_at, ao _ (by decide) (by decide) (by decide) (by decide) (by decide)]
  have b1 : M2.1 21 = va_cpy (M.1 44) (M1.1 21) 0 0 40 := by rw [hM2, mw_ne _ _ _ (by decide), mwA_at, ao 44 (by decide) (by decide) (by decide) (by decide) (by decide)]
  have bo : ∀ k, k ≠ 20 → k ≠ 21 → M2.1 k = M1.1 k := fun k h0 h1 => by rw [hM2, mw_ne _ _ _ h0, mwA_ne _ _ h1]
  clear hM2
  apply wp_X2_become_22_45
  obtain ⟨M3, hM3⟩ : ∃ M3, M3 = mw (mwA (mwA M2 23 (va_cpy (M2.1 46) (M2.1 23) 0 0 8)) 24 (va_cpy (M2.1 47) (M2.1 24) 0 0 8)) 22 2 (M2.1 45 2) := ⟨_, rfl⟩
  rw [← hM3]
  have c0 : M3.1 22 2 = M.1 45 2 := by rw [hM3, mw_at, upd_at, bo 45 (by decide) (by decide), ao 45 (by decide) (by decide) (by decide) (by decide) (by decide)]
  have c1 : M3.1 23 = va_cpy (M.1 46) (M2.1 23) 0 0 8 := by rw [hM3, mw_ne _ _ _ (by decide), mwA_ne _ _ (by decide), mwA_at, bo 46 (by decide) (by decide), ao 46 (by decide) (by decide) (by decide) (by decide) (by decide)]
  have c2 : M3.1 24 = va_cpy (M.1 47) (M2.1 24) 0 0 8 := by rw [hM3, mw_ne _ _ _ (by decide), mwA_at, bo 47 (by decide) (by decide), ao 47 (by decide) (by decide) (by decide) (by decide) (by decide)]
  have co : ∀ k, k ≠ 22 → k ≠ 23 → k ≠ 24 → M3.1 k = M2.1 k := fun k h0 h1 h2 => by rw [hM3, mw_ne _ _ _ h0, mwA_ne _ _ h2, mwA_ne _ _ h1]
  clear hM3
  have o3 : ∀ k, k ∉ [15, 16, 17, 18, 19, 20, 21, 22, 23, 24] → M3.1 k = M.1 k := fun k hk => by
    simp only [List.mem_cons, List.not_mem_nil, or_false] at hk
    rw [co k (by omega) (by omega) (by omega), bo k (by omega) (by omega), ao k (by omega) (by omega) (by omega) (by omega) (by omega)]
  rw [o3 52 (by decide), le1]
  apply wp_X1_take_29_53
  rw [gmin60 ln1, nn_at (n := n1) (by omega)]
  refine ⟨cpk60 ln1, ?_⟩
  obtain ⟨M4, hM4⟩ : ∃ M4, M4 = mw (mwA (mw M3 29 2 (nI n1)) 30 (va_cpy (M3.1 53) (M3.1 30) 0 0 n1)) 29 3 1 := ⟨_, rfl⟩
  rw [← hM4]
  have d0 : M4.1 29 = upd (upd (M3.1 29) 2 (nI n1)) 3 1 := by rw [hM4]; rfl
  have d1 : M4.1 30 = va_cpy (M.1 53) (M3.1 30) 0 0 n1 := by rw [hM4, mw_ne _ _ _ (by decide), mwA_at, o3 53 (by decide)]
  have d2 : ∀ k, k ≠ 29 → k ≠ 30 → M4.1 k = M3.1 k := fun k h0 h1 => by rw [hM4, mw_ne _ _ _ h0, mwA_ne _ _ h1, mw_ne _ _ _ h0]
  clear hM4
  rw [d2 52 (by decide) (by decide), d2 55 (by decide) (by decide), o3 52 (by decide), o3 55 (by decide), le2]
  refine ⟨ls1, ?_⟩
  apply wp_X1_take_32_56
  rw [gmin60 ln2, nn_at (n := n2) (by omega)]
  refine ⟨cpk60 ln2, ?_⟩
  obtain ⟨M6, hM6⟩ : ∃ M6, M6 = mw (mwA (mw (mw M4 29 3 (M.1 52 3)) 32 2 (nI n2)) 33 (va_cpy ((mw M4 29 3 (M.1 52 3)).1 56) ((mw M4 29 3 (M.1 52 3)).1 33) 0 0 n2)) 32 3 1 := ⟨_, rfl⟩
  rw [← hM6]
  have e0 : M6.1 29 = upd (upd (upd (M3.1 29) 2 (nI n1)) 3 1) 3 (M.1 52 3) := by rw [hM6, ← d0]; rfl
  have e1 : M6.1 30 = va_cpy (M.1 53) (M3.1 30) 0 0 n1 := by rw [hM6, ← d1]; rfl
  have e2 : M6.1 32 = upd (upd (M3.1 32) 2 (nI n2)) 3 1 := by rw [hM6, ← d2 32 (by decide) (by decide)]; rfl
  have e3 : M6.1 33 = va_cpy (M.1 56) (M3.1 33) 0 0 n2 := by rw [hM6, ← o3 56 (by decide), ← d2 56 (by decide) (by decide), ← d2 33 (by decide) (by decide)]; rfl
  have eo : ∀ k, k ≠ 29 → k ≠ 30 → k ≠ 32 → k ≠ 33 → M6.1 k = M3.1 k := fun k h0 h1 h2 h3 => by rw [hM6, mw_ne _ _ _ h2, mwA_ne _ _ h3, mw_ne _ _ _ h2, mw_ne _ _ _ h0, d2 k h0 h1]
  clear hM6
  have o6 : ∀ k, k ∉ [15, 16, 17, 18, 19, 20, 21, 22, 23, 24, 29, 30, 32, 33] → M6.1 k = M.1 k := fun k hk => by
    simp only [List.mem_cons, List.not_mem_nil, or_false] at hk
    rw [eo k (by omega) (by omega) (by omega) (by omega), o3 k (by simp only [List.mem_cons, List.not_mem_nil, or_false]; omega)]
  rw [o6 55 (by decide), o6 58 (by decide), o6 59 (by decide), o6 2 (by decide)]
  refine ⟨ls2, ?_⟩
  obtain ⟨M7, hM7⟩ : ∃ M7, M7 = (mw (mw (mw (mw (mw (mwA (mw (mwA (mw M6 32 3 (M.1 55 3)) 35 (va_cpy (M.1 58) (M6.1 35) 0 0 60)) 1 6 (M.1 2 6)) 36 (va_cpy (M.1 59) (M6.1 36) 0 0 24)) 1 8 (M.1 2 8)) 1 9 (M.1 2 9)) 1 10 (M.1 2 10)) 1 11 (M.1 2 11)) 1 12 (M.1 2 12)) := ⟨_, rfl⟩
  rw [← hM7]
  have g0 : M7.1 32 = upd (upd (upd (M3.1 32) 2 (nI n2)) 3 1) 3 (M.1 55 3) := by rw [hM7, ← e2]; rfl
  have g1 : M7.1 35 = va_cpy (M.1 58) (M6.1 35) 0 0 60 := by rw [hM7]; rfl
  have g2 : M7.1 36 = va_cpy (M.1 59) (M6.1 36) 0 0 24 := by rw [hM7]; rfl
  have g3 : M7.1 1 = upd (upd (upd (upd (upd (upd (M6.1 1) 6 (M.1 2 6)) 8 (M.1 2 8)) 9 (M.1 2 9)) 10 (M.1 2 10)) 11 (M.1 2 11)) 12 (M.1 2 12) := by rw [hM7]; rfl
  have go : ∀ k, k ≠ 32 → k ≠ 35 → k ≠ 36 → k ≠ 1 → M7.1 k = M6.1 k := fun k h0 h1 h2 h3 => by rw [hM7, mw_ne _ _ _ h3, mw_ne _ _ _ h3, mw_ne _ _ _ h3, mw_ne _ _ _ h3, mw_ne _ _ _ h3, mwA_ne _ _ h2, mw_ne _ _ _ h3, mwA_ne _ _ h1, mw_ne _ _ _ h0]
  clear hM7
  have lo : ∀ k, k ≠ 32 → k ≠ 35 → k ≠ 36 → k ≠ 1 → k ≠ 29 → k ≠ 30 → k ≠ 33 → M7.1 k = M3.1 k := fun k h0 h1 h2 h3 h4 h5 h6 => by rw [go k h0 h1 h2 h3, eo k h4 h5 h0 h6]
  refine hQ M7 ⟨⟨?_, fun i hi => ⟨?_, ?_, ?_, ?_⟩⟩, ⟨?_, fun i hi => ?_⟩, ⟨?_, fun i hi => ⟨?_, ?_⟩⟩, ⟨?_, ?_, fun i hi => ?_⟩, ⟨?_, ?_, fun i hi => ?_⟩, fun i hi => ?_, fun i hi => ?_, ?_, ?_, ?_, ?_, ?_, ?_⟩ (fun k hk => ?_)
  · rw [lo _ (by decide) (by decide) (by decide) (by decide) (by decide) (by decide) (by decide), co _ (by decide) (by decide) (by decide), bo _ (by decide) (by decide)]; exact a0
  · rw [lo _ (by decide) (by decide) (by decide) (by decide) (by decide) (by decide) (by decide), co _ (by decide) (by decide) (by decide), bo _ (by decide) (by decide)]; rw [show 15 + 1 = 16 from rfl, a1, cpy0 hi]
  · rw [lo _ (by decide) (by decide) (by decide) (by decide) (by decide) (by decide) (by decide), co _ (by decide) (by decide) (by decide), bo _ (by decide) (by decide)]; rw [show 15 + 2 = 17 from rfl, a2, cpy0 hi]
  · rw [lo _ (by decide) (by decide) (by decide) (by decide) (by decide) (by decide) (by decide), co _ (by decide) (by decide) (by decide), bo _ (by decide) (by decide)]; rw [show 15 + 3 = 18 from rfl, a3, cpy0 hi]
  · rw [lo _ (by decide) (by decide) (by decide) (by decide) (by decide) (by decide) (by decide), co _ (by decide) (by decide) (by decide), bo _ (by decide) (by decide)]; rw [show 15 + 4 = 19 from rfl, a4, cpy0 hi]
  · rw [lo _ (by decide) (by decide) (by decide) (by decide) (by decide) (by decide) (by decide), co _ (by decide) (by decide) (by decide)]; exact b0
  · rw [lo _ (by decide) (by decide) (by decide) (by decide) (by decide) (by decide) (by decide), co _ (by decide) (by decide) (by decide), show 15 + 6 = 21 from rfl, b1, cpy0 hi]
  · rw [lo _ (by decide) (by decide) (by decide) (by decide) (by decide) (by decide) (by decide)]; exact c0
  · rw [lo _ (by decide) (by decide) (by decide) (by decide) (by decide) (by decide) (by decide), show 15 + 8 = 23 from rfl, c1, cpy0 hi]
  · rw [lo _ (by decide) (by decide) (by decide) (by decide) (by decide) (by decide) (by decide), show 15 + 9 = 24 from rfl, c2, cpy0 hi]
  · rw [go _ (by decide) (by decide) (by decide) (by decide), show 15 + 14 = 29 from rfl, e0, upd_ne _ _ (by decide), upd_ne _ _ (by decide), upd_at]; exact le1.symm
  · rw [go _ (by decide) (by decide) (by decide) (by decide), show 15 + 14 = 29 from rfl, e0, upd_at]
  · rw [show 38 + 14 = 52 from rfl, le1, nn_at (by omega)] at hi
    rw [go _ (by decide) (by decide) (by decide) (by decide), show 15 + 15 = 30 from rfl, e1, cpy0 hi]
  · rw [show 15 + 17 = 32 from rfl, g0, upd_ne _ _ (by decide), upd_ne _ _ (by decide), upd_at]; exact le2.symm
  · rw [show 15 + 17 = 32 from rfl, g0, upd_at]
  · rw [show 38 + 17 = 55 from rfl, le2, nn_at (by omega)] at hi
    rw [go _ (by decide) (by decide) (by decide) (by decide), show 15 + 18 = 33 from rfl, e3, cpy0 hi]
  · rw [show 15 + 20 = 35 from rfl, g1, cpy0 hi]
  · rw [show 15 + 21 = 36 from rfl, g2, cpy0 hi]
  · rw [g3, upd_ne _ _ (by decide), upd_ne _ _ (by decide), upd_ne _ _ (by decide), upd_ne _ _ (by decide), upd_ne _ _ (by decide), upd_at]
  · rw [g3, upd_ne _ _ (by decide), upd_ne _ _ (by decide), upd_ne _ _ (by decide), upd_ne _ _ (by decide), upd_at]
  · rw [g3, upd_ne _ _ (by decide), upd_ne _ _ (by decide), upd_ne _ _ (by decide), upd_at]
  · rw [g3, upd_ne _ _ (by decide), upd_ne _ _ (by decide), upd_at]
  · rw [g3, upd_ne _ _ (by decide), upd_at]
  · rw [g3, upd_at]
  · simp only [List.mem_cons, List.not_mem_nil, or_false] at hk
    rw [go k (by omega) (by omega) (by omega) (by omega), o6 k (by simp only [List.mem_cons, List.not_mem_nil, or_false]; omega)]
theorem carry_65 {xs : gX} {d : Nat} {M : Mem} {Q : Mem → Prop} (hQ : ∀ f : Nat → Int32, (∀ i, i < 418 → f i = M.1 65 i) → Q (mwA M 66 f)) : MV xs d mX9_carry [.ref 65, .ref 66] M Q := by
  have key : ∀ m i f, i + m = 418 → (∀ j, j < i → f j = M.1 65 j) → GW xs d mX9_carry 2 [(0, .ref 65), (1, .ref 66), (2, .int (nI i))] [] (mwA M 66 f) (QV Q) := by
    intro m
    induction m with
    | zero =>
      intro i f hi hf
      apply wp_X9_carry_65_66_L2
      exact ite_n (nI_nltI (b := 418) (by omega) (by decide) (by omega)) (hQ f (fun j hj => hf j (by omega)))
    | succ m ih =>
      intro i f hi hf
      apply wp_X9_carry_65_66_L2
      rw [nn_at (n := i) (by omega), nI_1, mw_mwA, mwA_ne _ _ (by decide : (65 : Nat) ≠ 66)]
      refine ite_p (nI_ltI' (b := 418) (by omega) (by decide) (by omega)) ⟨vin_n (by omega) (by decide), ih (i + 1) _ (by omega) (fun j hj => ?_)⟩
      by_cases e : j = i
      · subst e; rw [upd_at]
      · rw [upd_ne _ _ e]; exact hf j (by omega)
  apply wp_X9_carry_65_66
  have k0 := key 418 0 (M.1 66) (by omega) (fun j hj => absurd hj (Nat.not_lt_zero j))
  rw [mwA_self] at k0
  exact k0
theorem carry_66 {xs : gX} {d : Nat} {M : Mem} {Q : Mem → Prop} (hQ : ∀ f : Nat → Int32, (∀ i, i < 418 → f i = M.1 66 i) → Q (mwA M 65 f)) : MV xs d mX9_carry [.ref 66, .ref 65] M Q := by
  have key : ∀ m i f, i + m = 418 → (∀ j, j < i → f j = M.1 66 j) → GW xs d mX9_carry 2 [(0, .ref 66), (1, .ref 65), (2, .int (nI i))] [] (mwA M 65 f) (QV Q) := by
    intro m
    induction m with
    | zero =>
      intro i f hi hf
      apply wp_X9_carry_66_65_L2
      exact ite_n (nI_nltI (b := 418) (by omega) (by decide) (by omega)) (hQ f (fun j hj => hf j (by omega)))
    | succ m ih =>
      intro i f hi hf
      apply wp_X9_carry_66_65_L2
      rw [nn_at (n := i) (by omega), nI_1, mw_mwA, mwA_ne _ _ (by decide : (66 : Nat) ≠ 65)]
      refine ite_p (nI_ltI' (b := 418) (by omega) (by decide) (by omega)) ⟨vin_n (by omega) (by decide), ih (i + 1) _ (by omega) (fun j hj => ?_)⟩
      by_cases e : j = i
      · subst e; rw [upd_at]
      · rw [upd_ne _ _ e]; exact hf j (by omega)
  apply wp_X9_carry_66_65
  have k0 := key 418 0 (M.1 65) (by omega) (fun j hj => absurd hj (Nat.not_lt_zero j))
  rw [mwA_self] at k0
  exact k0
theorem P_image {xs : gX} {d : Nat} {M : Mem} (hI : Inv M) : PB xs d mX8_image mX9_image [] M := by
  apply wp_X8_image_0
  refine become21 hI.1 (fun M1 hc ho => ?_)
  have e0 : M1.1 0 = M.1 0 := ho 0 (by decide)
  have e64 : M1.1 64 = M.1 64 := ho 64 (by decide)
  have e65 : M1.1 65 = M.1 65 := ho 65 (by decide)
  rw [e0]
  apply wp_X9_image_64
  refine carry_65 (fun f hf => ?_)
  rw [mw_ne _ _ _ (by decide : (65 : Nat) ≠ 0), e65] at hf
  obtain ⟨i1, i2, i3, i4, i5⟩ := id hI
  rw [mwA_ne _ _ (by decide : (64 : Nat) ≠ 66), mw_ne _ _ _ (by decide : (64 : Nat) ≠ 0), e64]
  obtain ⟨M2, hM2⟩ : ∃ M2, M2 = mw (mwA (mw M1 0 6 (M.1 0 6 + 1)) 66 f) 64 2 (M.1 64 2 + 1) := ⟨_, rfl⟩
  rw [← hM2]
  have o1 : ∀ k, k ≠ 0 → k ≠ 66 → k ≠ 64 → M2.1 k = M1.1 k := fun k h1 h2 h3 => by rw [hM2, mw_ne _ _ _ h3, mwA_ne _ _ h2, mw_ne _ _ _ h1]
  have r0 : M2.1 0 6 = M.1 0 6 + 1 := by rw [hM2, mw_ne _ _ _ (by decide), mwA_ne _ _ (by decide), mw_at, upd_at]
  have r66 : M2.1 66 = f := by rw [hM2, mw_ne _ _ _ (by decide), mwA_at]
  have r64 : M2.1 64 = upd (M.1 64) 2 (M.1 64 2 + 1) := by rw [hM2, mw_at, mwA_ne _ _ (by decide), mw_ne _ _ _ (by decide), e64]
  have oo : ∀ k, k ∉ [2, 38, 39, 40, 41, 42, 43, 44, 45, 46, 47, 52, 53, 55, 56, 58, 59, 0, 66, 64] → M2.1 k = M.1 k := fun k hk => by
    simp only [List.mem_cons, List.not_mem_nil, or_false] at hk
    rw [o1 k (by omega) (by omega) (by omega), ho k (by simp only [List.mem_cons, List.not_mem_nil, or_false]; omega)]
  refine ⟨by rw [i2.1], ?_, ⟨?_, .inr ?_⟩, fun k hk => ?_, ?_, ?_⟩
  · rw [oo 65 (by decide)]
    refine IW_frame (fun k hk => oo k ?_) (fun _ _ => rfl) i1
    intro e; revert e hk; unfold wc; simp only [List.mem_cons, List.not_mem_nil, or_false]; omega
  · rw [r0, r64, upd_at, i2.1]
  · rw [r66]
    refine IW_frame (M := M1) (fun k hk => o1 k ?_ ?_ ?_) hf (IW_cp hc i1)
    · intro e; revert e hk; unfold wc; simp only [List.mem_cons, List.not_mem_nil, or_false]; omega
    · intro e; revert e hk; unfold wc; simp only [List.mem_cons, List.not_mem_nil, or_false]; omega
    · intro e; revert e hk; unfold wc; simp only [List.mem_cons, List.not_mem_nil, or_false]; omega
  · rw [oo 6 (by decide), oo 67 (by decide)]; exact i3 k hk
  · exact TRC_frame (by rw [oo 4 (by decide)]) (by rw [r64, upd_ne _ _ (by decide)]) (oo 63 (by decide)) (oo 77 (by decide)) i4
  · refine SHE_frame (fun k hk => oo k ?_) i5
    intro e; revert e hk; simp only [List.mem_cons, List.not_mem_nil, or_false]; omega
theorem P_restore {xs : gX} {d : Nat} {M : Mem} (hI : Inv M) : PB xs d mX8_restore mX9_restore [] M := by
  obtain ⟨i1, i2, i3, i4, i5⟩ := id hI
  apply wp_X8_restore_0
  rw [i2.1]
  by_cases h0 : M.1 64 2 = 0
  · refine ite_p h0 ?_
    apply wp_X9_restore_64
    exact ite_p h0 ⟨rfl, Inv_err hI 2⟩
  refine ite_n h0 ?_
  have iw : IW M 2 38 (M.1 66) := by
    rcases i2.2 with e | e
    · exact absurd e h0
    · exact e
  refine become12 iw (fun M1 hc ho => ?_)
  have e64 : M1.1 64 = M.1 64 := ho 64 (by decide)
  have e66 : M1.1 66 = M.1 66 := ho 66 (by decide)
  apply wp_X9_restore_64
  rw [e64]
  refine ite_n h0 (carry_66 (fun f hf => ?_))
  rw [e66] at hf
  have iw1 : IW M1 1 15 (M.1 66) := IW_cp hc iw
  rw [mwA_at]
  have o1 : ∀ k, k ≠ 65 → (mwA M1 65 f).1 k = M1.1 k := fun k hk => mwA_ne _ _ hk
  have oo : ∀ k, k ∉ [1, 15, 16, 17, 18, 19, 20, 21, 22, 23, 24, 29, 30, 32, 33, 35, 36, 65] → (mwA M1 65 f).1 k = M.1 k := fun k hk => by
    simp only [List.mem_cons, List.not_mem_nil, or_false] at hk
    rw [o1 k (by omega), ho k (by simp only [List.mem_cons, List.not_mem_nil, or_false]; omega)]
  refine ⟨?_, ?_, ?_, fun k hk => ?_, ?_, ?_⟩
  · rw [hf 3 (by decide)]
    exact iw1.2.2.2.1.2.1
  · rw [mwA_at]
    refine IW_frame (M := M1) (fun k hk => o1 k ?_) hf iw1
    intro e; revert e hk; unfold wc; simp only [List.mem_cons, List.not_mem_nil, or_false]; omega
  · refine IMG_frame (fun k hk => oo k ?_) (by rw [oo 0 (by decide)]) (by rw [oo 64 (by decide)]) (oo 66 (by decide)) i2
    intro e; revert e hk; unfold wc; simp only [List.mem_cons, List.not_mem_nil, or_false]; omega
  · rw [oo 6 (by decide), oo 67 (by decide)]; exact i3 k hk
  · exact TRC_frame (by rw [oo 4 (by decide)]) (by rw [oo 64 (by decide)]) (oo 63 (by decide)) (oo 77 (by decide)) i4
  · refine SHE_frame (fun k hk => oo k ?_) i5
    intro e; revert e hk; simp only [List.mem_cons, List.not_mem_nil, or_false]; omega
