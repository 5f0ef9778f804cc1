/-! ===== what a sale would break ===== -/
theorem IW_l {l : List Nat} {M M1 : Mem} {s : Nat → Int32} (h : IW M 1 15 s) (hf : FR l M M1) (hl : ∀ k, k ∈ wc 1 15 → k ∉ l) : IW M1 1 15 s := IW_frame (fun k hk => hf.2 k (hl k hk)) (fun _ _ => rfl) h
def RW (s : Nat → Int32) : Prop := VS s ∧ VT s ∧ VC s ∧ ∃ sz sd cd, LAW sz sd cd 0 s
theorem RW_of {M : Mem} {s : Nat → Int32} (h : IW M 1 15 s) : RW s := ⟨h.1.1, h.2.1.1, h.2.2.2.1.1, _, _, _, h.2.2.2.2.1⟩
theorem RW_add {s : Nat → Int32} (h : RW s) {a f t : Nat} (hn : ns s < 6) (ha : 1 ≤ a) (ha2 : a ≤ 150) (hf : f < 4) (ht : t < 4) (hne : f ≠ t) (hfree : trB s a f t = false) : RW (sAdd s (nI a) (nI f) (nI t)) := by
  obtain ⟨h1, h2, h3, sz, sd, cd, h4⟩ := h
  have o : ∀ j, j ≠ 0 → (j < 10 ∨ 28 ≤ j) → sAdd s (nI a) (nI f) (nI t) j = s j := fun j q0 q => sAdd_far _ _ _ q0 (by omega)
  exact ⟨VS_add h1 hn ha ha2 hf ht hne hfree, VT_congr (o 1 (by omega) (by omega)) (fun j q _ => o j (by omega) (by omega)) h2, VC_congr (fun j q1 q2 => o j (by omega) (by omega)) (fun j q1 q2 => o j (by omega) (by omega)) h3, sz, sd, cd, LAW_congr (fun j q1 q2 => o j (by omega) (by omega)) h4⟩
theorem IW_add {M M1 : Mem} {s : Nat → Int32} {a f t : Nat} (h : IW M 1 15 s) (hn : ns s < 6) (ha : 1 ≤ a) (ha2 : a ≤ 150) (hf : f < 4) (ht : t < 4) (hne : f ≠ t) (hfree : trB s a f t = false) (hfr : FR [15, 16, 17, 18, 19] M M1) (hS : SKY M1 15 (sAdd s (nI a) (nI f) (nI t))) : IW M1 1 15 (sAdd s (nI a) (nI f) (nI t)) :=
  IW_sales h (fun j _ q0 q => sAdd_far _ _ _ q0 (by omega)) (fun k hk => hfr.2 k (by revert hk; simp only [List.mem_cons, List.not_mem_nil, or_false]; omega)) (VS_add h.1.1 hn ha ha2 hf ht hne hfree) hS
theorem agnC {xs : gX} {d : Nat} {M1 : Mem} {Q : Int32 → Mem → Prop} {s : Nat → Int32} {t : Nat} (hW : IW M1 1 15 s) (ht : t < N s 1) (hQ : ∀ M2, FR [31] M1 M2 → Q (agn s t) M2) : MI xs (d + 3) mX3_fact [.ref 20, .int (nI t), .int 2] M1 (fun r2 M3 => MI xs (d + 3) mX7_ageOf [.ref 1, .int (nI t), .int r2, .int (M3.1 1 9)] M3 Q) := by
  obtain ⟨⟨v1, i1⟩, ⟨v2, i2⟩, -, ⟨v4, i4⟩, i5, -⟩ := hW
  obtain ⟨-, g1, g2, g3, g4⟩ := v2.2.2 t ht
  have nw := vin_get v4.1 (by decide)
  refine fact_ok (w := 2) v2 i2 ht (by omega) ?_
  rw [i4.1, nw.1]
  exact ageC_ok v1 i1 v2 i2 i5 ht g3 nw.2 hQ
theorem agnR {xs : gX} {d : Nat} {M1 : Mem} {Q : Int32 → Mem → Prop} {s : Nat → Int32} {t : Nat} (hW : RW s) (hs : M1.1 65 = s) (hN : NMS M1 s) (ht : t < N s 1) (hQ : ∀ M2, FR [70, 71] M1 M2 → Q (agn s t) M2) : vp_in ((28 + (4 * nI t)) + 2) 418 ∧ MI xs (d + 3) mX9_ageOf [.ref 64, .int (nI t), .int (M1.1 65 (((28 + (4 * nI t)) + 2)).toNatClampNeg), .int (M1.1 65 3)] M1 Q := by
  obtain ⟨v1, v2, v4, sz, sd, cd, i5⟩ := hW
  obtain ⟨g0, g1, g2, g3, g4⟩ := v2.2.2 t ht
  have h10 := v2.2.1
  have nw := vin_get v4.1 (by decide)
  rw [show (28 + (4 * nI t)) + 2 = nI (28 + 4 * t + 2) from zT t 2, nn_at (by omega), hs, g0 2 (by omega), nw.1]
  exact ⟨vin_n (by omega) (by decide), ageR_ok v1 hs hN v2 i5 ht g3 nw.2 hQ⟩
def brN (s s' : Nat → Int32) : Nat → Nat
  | 0 => 0
  | t + 1 => brN s s' t + (if agn s' t = agn s t then 0 else 1)
theorem brN_le (s s' : Nat → Int32) : ∀ n, brN s s' n ≤ n := by
  intro n
  induction n with
  | zero => exact Nat.le_refl _
  | succ n ih =>
    show brN s s' n + _ ≤ _
    split <;> omega
theorem breaksByC {xs : gX} {d : Nat} {M0 : Mem} {Q : Int32 → Mem → Prop} {s : Nat → Int32} {a f t : Nat} (hW : IW M0 1 15 s) (hn : ns s < 6) (ha : 1 ≤ a) (ha2 : a ≤ 150) (hf : f < 4) (ht : t < 4) (hne : f ≠ t) (hfree : trB s a f t = false) (hQ : ∀ M2, FR [15, 16, 17, 18, 19, 31, 37] M0 M2 → IW M2 1 15 s → Q (nI (brN s (sAdd s (nI a) (nI f) (nI t)) (N s 1))) M2) : MI xs (d + 5) mX7_breaksBy [.ref 1, .int (nI a), .int (nI f), .int (nI t)] M0 Q := by
  obtain ⟨s', hs'⟩ : ∃ s', s' = sAdd s (nI a) (nI f) (nI t) := ⟨_, rfl⟩
  have hV := hW.1.1
  have hV' : VS s' := by rw [hs']; exact VS_add hV hn ha ha2 hf ht hne hfree
  have n' : ns s' = ns s + 1 := by rw [hs']; exact ns_add hV _ _ _
  have e1 : N s' 1 = N s 1 := by unfold N; rw [hs', sAdd_far _ _ _ (by omega) (by omega)]
  have hTn := hW.2.1.1.2.1
  have h20 : M0.1 20 1 = nI (N s 1) := hW.2.1.2.1.trans hW.2.1.1.1
  rw [← hs'] at hQ
  have k2 : ∀ m i M1, i + m = N s 1 → FR [15, 16, 17, 18, 19, 31, 37] M0 M1 → IW M1 1 15 s' → (∀ j, j < N s 1 → M1.1 37 j = agn s j) → GW xs (d + 5) mX7_breaksBy 64 [(0, .ref 1), (1, .int (nI a)), (2, .int (nI f)), (3, .int (nI t)), (4, .int (nI (brN s s' i))), (5, .int (nI i))] [] M1 (QI Q) := by
    intro m
    induction m with
    | zero =>
      intro i M1 hi h1 w1 h37
      obtain rfl : i = N s 1 := by omega
      apply wp_X7_breaksBy_1_L64
      rw [h1.2 20 (by decide), h20]
      refine ite_n (nI_nltI (by omega) (by omega) (by omega)) (removeLast_ok hV' w1.1.2 (by omega) (fun g hS => hQ _ ((h1.mwA (by decide)).mw (by decide)) ?_))
      have b : SE (sLess s') s := by rw [hs']; exact SE_symm (SE_back hV hn _ _ _)
      refine IW_SE b (IW_sales w1 (fun j _ q0 _ => upd_ne _ _ q0) (fun k hk => ?_) (VS_less hV') hS)
      rw [mw_ne _ _ _ (by intro e; subst e; revert hk; decide), mwA_ne _ _ (by intro e; subst e; revert hk; decide)]
    | succ m ih =>
      intro i M1 hi h1 w1 h37
      apply wp_X7_breaksBy_1_L64
      rw [h1.2 20 (by decide), h20]
      simp only [nI_1]
      refine ite_p (nI_ltI' (by omega) (by omega) (by omega)) (agnC w1 (by omega) (fun M2 h2 => ⟨vin_n (by omega) (by decide), ?_⟩))
      rw [nn_at (by omega), h2.2 37 (by decide), h37 i (by omega)]
      have ih := ih (i + 1) M2 (by omega) (h1.trans (h2.mono (by decide))) (IW_l w1 h2 (by decide)) (fun j hj => by rw [h2.2 37 (by decide)]; exact h37 j hj)
      rw [show brN s s' (i + 1) = brN s s' i + (if agn s' i = agn s i then 0 else 1) from rfl] at ih
      by_cases q : agn s' i = agn s i
      · rw [if_pos q] at ih
        exact ite_p q ih
      · rw [if_neg q] at ih
        exact ite_n q ih
  have k1 : ∀ m i M1, i + m = N s 1 → FR [31, 37] M0 M1 → (∀ j, j < i → M1.1 37 j = agn s j) → GW xs (d + 5) mX7_breaksBy 17 [(0, .ref 1), (1, .int (nI a)), (2, .int (nI f)), (3, .int (nI t)), (4, .int (nI i))] [] M1 (QI Q) := by
    intro m
    induction m with
    | zero =>
      intro i M1 hi h1 h37
      obtain rfl : i = N s 1 := by omega
      have w1 := IW_l hW h1 (by decide)
      apply wp_X7_breaksBy_1_L17
      rw [h1.2 20 (by decide), h20]
      refine ite_n (nI_nltI (by omega) (by omega) (by omega)) (add_ok hV w1.1.2 hn (by omega) (fun M2 h2 _ hS => ?_))
      refine k2 (N s 1) 0 M2 (by omega) ((h1.mono (by decide)).trans (h2.mono (by decide))) ?_ (fun j hj => by rw [h2.2 37 (by decide)]; exact h37 j hj)
      rw [hs']
      exact IW_add w1 hn ha ha2 hf ht hne hfree h2 hS
    | succ m ih =>
      intro i M1 hi h1 h37
      have w1 := IW_l hW h1 (by decide)
      apply wp_X7_breaksBy_1_L17
      rw [h1.2 20 (by decide), h20]
      refine ite_p (nI_ltI' (by omega) (by omega) (by omega)) (agnC w1 (by omega) (fun M2 h2 => ⟨vin_n (by omega) (by decide), ?_⟩))
      rw [nn_at (by omega), nI_1]
      refine ih (i + 1) _ (by omega) ((h1.trans (h2.mono (by decide))).mw (by decide)) (fun j hj => ?_)
      rw [mw_at]
      by_cases e : j = i
      · subst e; rw [upd_at]
      · rw [upd_ne _ _ e, h2.2 37 (by decide)]; exact h37 j (by omega)
  apply wp_X7_breaksBy_1
  rw [hW.1.2.1, hV.1]
  exact ite_p (lit_lt (n := 6) rfl hn (by decide)) (k1 (N s 1) 0 M0 (by omega) FR.rfl' (fun j hj => by omega))
theorem breaksByR {xs : gX} {d : Nat} {M0 : Mem} {Q : Int32 → Mem → Prop} {s : Nat → Int32} {a f t : Nat} (hW : RW s) (hs : M0.1 65 = s) (hn : ns s < 6) (ha : 1 ≤ a) (ha2 : a ≤ 150) (hf : f < 4) (ht : t < 4) (hne : f ≠ t) (hfree : trB s a f t = false) (hQ : ∀ M2, FR [65, 68, 70, 71, 76] M0 M2 → M2.1 65 = sLess (sAdd s (nI a) (nI f) (nI t)) → Q (nI (brN s (sAdd s (nI a) (nI f) (nI t)) (N s 1))) M2) : MI xs (d + 5) mX9_breaksBy [.ref 64, .int (nI a), .int (nI f), .int (nI t)] M0 Q := by
  have hW' := RW_add hW hn ha ha2 hf ht hne hfree
  have hV := hW.1
  have s0' : sAdd s (nI a) (nI f) (nI t) 0 = nI (ns s + 1) := upd_at _ _ _
  have n' : ns (sAdd s (nI a) (nI f) (nI t)) = ns s + 1 := ns_add hV _ _ _
  obtain ⟨s', hs'⟩ : ∃ s', s' = sAdd s (nI a) (nI f) (nI t) := ⟨_, rfl⟩
  rw [← hs'] at hQ hW' s0' n'
  have e1 : N s' 1 = N s 1 := by unfold N; rw [hs', sAdd_far _ _ _ (by omega) (by omega)]
  have hTn := hW.2.1.2.1
  have hT0 : s 1 = nI (N s 1) := hW.2.1.1
  have hT0' : s' 1 = nI (N s 1) := by rw [hW'.2.1.1, e1]
  have k2 : ∀ m i M1, i + m = N s 1 → FR [65, 68, 70, 71, 76] M0 M1 → M1.1 65 = s' → NMS M1 s' → (∀ j, j < N s 1 → M1.1 76 j = agn s j) → GW xs (d + 5) mX9_breaksBy 54 [(0, .ref 64), (1, .int (nI a)), (2, .int (nI f)), (3, .int (nI t)), (4, .int (nI (brN s s' i))), (5, .int (nI i))] [] M1 (QI Q) := by
    intro m
    induction m with
    | zero =>
      intro i M1 hi h1 hs1 hN1 h76
      obtain rfl : i = N s 1 := by omega
      apply wp_X9_breaksBy_64_L54
      rw [hs1, hT0']
      refine ite_n (nI_nltI (by omega) (by omega) (by omega)) (hQ _ (h1.mw (by decide)) ?_)
      rw [mw_at, hs1, s0', nI_pred]
      unfold sLess
      rw [n', show ns s + 1 - 1 = ns s by omega]
    | succ m ih =>
      intro i M1 hi h1 hs1 hN1 h76
      apply wp_X9_breaksBy_64_L54
      have key := agnR (xs := xs) (d := d) (M1 := M1) (t := i) hW' hs1 hN1 (by omega) (Q := fun r3 M4 => (vp_in (nI i) 10 ∧ (if r3 = (M4.1 76 (nI i).toNatClampNeg) then GW xs (d + 5) mX9_breaksBy 54 [(0, .ref 64), (1, .int (nI a)), (2, .int (nI f)), (3, .int (nI t)), (4, .int (nI (brN s s' i) + 0)), (5, .int (nI i + 1))] [] M4 (QI Q) else GW xs (d + 5) mX9_breaksBy 54 [(0, .ref 64), (1, .int (nI a)), (2, .int (nI f)), (3, .int (nI t)), (4, .int (nI (brN s s' i) + 1)), (5, .int (nI i + 1))] [] M4 (QI Q)))) (fun M2 h2 => ⟨vin_n (by omega) (by decide), ?_⟩)
      · refine ite_p ?_ key
        rw [hs1, hT0']
        exact nI_ltI' (by omega) (by omega) (by omega)
      · rw [nn_at (by omega), h2.2 76 (by decide), h76 i (by omega), Int32.add_zero]
        simp only [nI_1]
        have ih := ih (i + 1) M2 (by omega) (h1.trans (h2.mono (by decide))) ((h2.2 65 (by decide)).trans hs1) (fun c y hc hy => by rw [h2.2 68 (by decide)]; exact hN1 c y hc hy) (fun j hj => by rw [h2.2 76 (by decide)]; exact h76 j hj)
        rw [show brN s s' (i + 1) = brN s s' i + (if agn s' i = agn s i then 0 else 1) from rfl] at ih
        by_cases q : agn s' i = agn s i
        · rw [if_pos q] at ih
          exact ite_p q ih
        · rw [if_neg q] at ih
          exact ite_n q ih
  have k1 : ∀ m i M1, i + m = N s 1 → FR [68, 70, 71, 76] M0 M1 → NMS M1 s → (∀ j, j < i → M1.1 76 j = agn s j) → GW xs (d + 5) mX9_breaksBy 7 [(0, .ref 64), (1, .int (nI a)), (2, .int (nI f)), (3, .int (nI t)), (4, .int (nI i))] [] M1 (QI Q) := by
    intro m
    induction m with
    | zero =>
      intro i M1 hi h1 hN1 h76
      obtain rfl : i = N s 1 := by omega
      have hs1 : M1.1 65 = s := (h1.2 65 (by decide)).trans hs
      apply wp_X9_breaksBy_64_L7
      have z0 : 10 + (3 * nI (ns s)) = nI (10 + 3 * ns s + 0) := by simp only [i_lit, nI_mul, nI_add, Nat.add_zero]
      have z1 : nI (10 + 3 * ns s + 0) + 1 = nI (10 + 3 * ns s + 1) := nI_1 _
      have z2 : nI (10 + 3 * ns s + 0) + 2 = nI (10 + 3 * ns s + 2) := nI_add _ 2
      rw [hs1, hT0, hV.1, z0, z1, z2, nn_at (n := 10 + 3 * ns s + 0) (by omega), nn_at (n := 10 + 3 * ns s + 1) (by omega), nn_at (n := 10 + 3 * ns s + 2) (by omega)]
      refine ite_n (nI_nltI (by omega) (by omega) (by omega)) ⟨vin_n (by omega) (by decide), vin_n (by omega) (by decide), vin_n (by omega) (by decide), ?_⟩
      have r0 : (mw (mw (mw M1 65 (10 + 3 * ns s + 0) (nI a)) 65 (10 + 3 * ns s + 1) (nI f)) 65 (10 + 3 * ns s + 2) (nI t)).1 65 0 = nI (ns s) := by
        rw [mw_at, upd_ne _ _ (by omega), mw_at, upd_ne _ _ (by omega), mw_at, upd_ne _ _ (by omega), hs1]
        exact hV.1
      rw [r0, nI_1]
      have r65 : (mw (mw (mw (mw M1 65 (10 + 3 * ns s + 0) (nI a)) 65 (10 + 3 * ns s + 1) (nI f)) 65 (10 + 3 * ns s + 2) (nI t)) 65 0 (nI (ns s + 1))).1 65 = s' := by
        rw [mw_at, mw_at, mw_at, mw_at, hs1, hs']
        rfl
      refine findNames_ok (by rw [r65]; exact hW'.1) (fun g hg => ?_)
      refine k2 (N s 1) 0 _ (by omega) (((((h1.mono (by decide)).mw (by decide)).mw (by decide)).mw (by decide)).mw (by decide) |>.mwA (by decide)) ?_ (fun c y hc hy => ?_) (fun j hj => ?_)
      · rw [mwA_ne _ _ (by decide), r65]
      · rw [mwA_at, hg c y hc hy, r65]
      · rw [mwA_ne _ _ (by decide), mw_ne _ _ _ (by decide), mw_ne _ _ _ (by decide), mw_ne _ _ _ (by decide), mw_ne _ _ _ (by decide)]
        exact h76 j hj
    | succ m ih =>
      intro i M1 hi h1 hN1 h76
      have hs1 : M1.1 65 = s := (h1.2 65 (by decide)).trans hs
      apply wp_X9_breaksBy_64_L7
      have key := agnR (xs := xs) (d := d) (M1 := M1) (t := i) hW hs1 hN1 (by omega) (Q := fun r3 M4 => (vp_in (nI i) 10 ∧ GW xs (d + 5) mX9_breaksBy 7 [(0, .ref 64), (1, .int (nI a)), (2, .int (nI f)), (3, .int (nI t)), (4, .int (nI i + 1))] [] (mw M4 76 (nI i).toNatClampNeg r3) (QI Q))) (fun M2 h2 => ⟨vin_n (by omega) (by decide), ?_⟩)
      · refine ite_p ?_ key
        rw [hs1, hT0]
        exact nI_ltI' (by omega) (by omega) (by omega)
      · rw [nn_at (by omega), nI_1]
        refine ih (i + 1) _ (by omega) ((h1.trans (h2.mono (by decide))).mw (by decide)) (fun c y hc hy => ?_) (fun j hj => ?_)
        · rw [mw_ne _ _ _ (by decide), h2.2 68 (by decide)]
          exact hN1 c y hc hy
        · rw [mw_at]
          by_cases e : j = i
          · subst e; rw [upd_at]
          · rw [upd_ne _ _ e, h2.2 76 (by decide)]; exact h76 j (by omega)
  apply wp_X9_breaksBy_64
  refine findNames_ok (by rw [hs]; exact hV) (fun g hg => ?_)
  refine k1 (N s 1) 0 _ (by omega) (FR.rfl'.mwA (by decide)) (fun c y hc hy => ?_) (fun j hj => by omega)
  rw [mwA_at, hg c y hc hy, hs]
theorem Inv_br {M M1 M2 : Mem} (hI : Inv M) (h1 : FR [15, 16, 17, 18, 19, 31, 37] M M1) (w1 : IW M1 1 15 (M.1 65)) (h2 : FR [65, 68, 70, 71, 76] M1 M2) (he : SE (M.1 65) (M2.1 65)) : Inv M2 := by
  refine Inv_of hI (fun k hk => ?_) (IW_SE he (IW_l w1 h2 (by decide)))
  rw [h2.2 k (fun e => by revert e hk; unfold oc wc; simp only [List.mem_append, List.mem_cons, List.not_mem_nil, or_false]; omega), h1.2 k (fun e => by revert e hk; unfold oc wc; simp only [List.mem_append, List.mem_cons, List.not_mem_nil, or_false]; omega)]
theorem Inv_br2 {M M1 M2 : Mem} (hI : Inv M) (k : Nat) (h1 : FR [15, 16, 17, 18, 19, 31, 37] M M1) (w1 : IW M1 1 15 (M.1 65)) (h2 : FR [65, 68, 70, 71, 76] (mw M1 6 k (M1.1 6 k + 1)) M2) (he : SE (M.1 65) (M2.1 65)) : Inv (mw M2 67 k (M2.1 67 k + 1)) := by
  have i2 : Inv (mwA M2 6 (M1.1 6)) := by
    refine Inv_br hI h1 w1 ⟨h2.1, fun q hq => ?_⟩ (by rw [mwA_ne _ _ (by decide)]; exact he)
    by_cases e : q = 6
    · subst e; rw [mwA_at]
    · rw [mwA_ne _ _ e, h2.2 q hq, mw_ne _ _ _ e]
  refine Inv_scr (Inv_err i2 k) (fun q _ => ?_)
  by_cases e7 : q = 67
  · subst e7
    rw [mw_at, mw_at, mw_ne _ _ _ (by decide), mwA_ne _ _ (by decide)]
  · rw [mw_ne _ _ _ e7, mw_ne _ _ _ e7]
    by_cases e : q = 6
    · subst e
      rw [h2.2 6 (by decide), mw_at, mw_at, mwA_at]
    · rw [mw_ne _ _ _ e, mwA_ne _ _ e]
theorem P_breaks {xs : gX} {d : Nat} {M : Mem} (hI : Inv M) (a b c : Int32) : PB xs d mX8_breaks mX9_breaks [.int a, .int b, .int c] M := by
  obtain ⟨⟨v1, i1⟩, ⟨v2, i2⟩, ⟨v3, i3⟩, ⟨v4, i4⟩, i5⟩ := id hI.1
  have hT0 : M.1 65 1 = nI (N (M.1 65) 1) := v2.1
  have hT1 : M.1 20 1 = nI (N (M.1 65) 1) := i2.1.trans v2.1
  have hTn := v2.2.1
  have hP0 : M.1 65 2 = nI (N (M.1 65) 2) := v3.1
  have hP1 : M.1 22 2 = nI (N (M.1 65) 2) := i3.1.trans v3.1
  have hPn := v3.2.1
  have hS0 : M.1 65 0 = nI (ns (M.1 65)) := v1.1
  have hS1 : M.1 15 4 = nI (ns (M.1 65)) := i1.1.trans v1.1
  have hSn := v1.2.1
  have bad : ∀ k : Nat, 1 ≤ k → k ≤ 4 → (∀ Q : Int32 → Mem → Prop, Q (nI k) (mw M 6 k (M.1 6 k + 1)) → MI xs (d + 6) mX9_whyNotSold [.ref 64, .int a, .int b, .int c] (mw M 6 k (M.1 6 k + 1)) Q) → MI xs (d + 7) mX9_breaks [.ref 64, .int a, .int b, .int c] (mw M 6 k (M.1 6 k + 1)) (fun r2 M2 => -1000000000 - nI k = r2 ∧ Inv M2) := by
    intro k k1 k2 hw
    apply wp_X9_breaks_64
    refine hw _ ?_
    refine ite_p (nI_ltI' (a := 0) (by decide) (by omega) (by omega)) ⟨vin_n (by omega) (by decide), rfl, ?_⟩
    rw [nn_at (by omega)]
    exact Inv_err hI k
  have s6 : ∀ k, (mw M 6 k (M.1 6 k + 1)).1 65 = M.1 65 := fun k => mw_ne _ _ _ (by decide)
  apply wp_X8_breaks_0
  refine saleRefusal_ok hI a b c (fun hno => ?_) (fun ja jb jc g1 g2 g3 g4 g5 e1 e2 e3 => ?_)
  · refine ite_n (by decide) ⟨vin (by decide), ?_⟩
    exact bad 1 (by decide) (by decide) (fun Q hq => whyNot_ok (by rw [s6]; exact v1) a b c (fun _ => hq) (fun ja jb jc g1 g2 g3 g4 g5 e1 e2 e3 => (hno ja jb jc g1 g2 g3 g4 g5 e1 e2 e3).elim))
  · subst e1 e2 e3
    have no : ∀ k : Nat, why (trB (M.1 65) ja jb jc) (ns (M.1 65)) = nI k → ∀ Q : Int32 → Mem → Prop, Q (nI k) (mw M 6 k (M.1 6 k + 1)) → MI xs (d + 6) mX9_whyNotSold [.ref 64, .int (nI ja), .int (nI jb), .int (nI jc)] (mw M 6 k (M.1 6 k + 1)) Q := by
      intro k hk Q hq
      refine whyNot_ok (by rw [s6]; exact v1) _ _ _ (fun hno => (hno ja jb jc g1 g2 g3 g4 g5 rfl rfl rfl).elim) (fun ja' jb' jc' f1 f2 f3 f4 f5 e1 e2 e3 => ?_)
      have q1 := nI_inj (by omega) (by omega) e1
      have q2 := nI_inj (by omega) (by omega) e2
      have q3 := nI_inj (by omega) (by omega) e3
      subst q1 q2 q3
      rw [s6, hk]; exact hq
    cases ht : trB (M.1 65) ja jb jc
    · rw [ht] at no
      by_cases h6 : ns (M.1 65) < 6
      · rw [why_0 h6]
        refine ite_p rfl (breaksByC hI.1 h6 g1 g2 g3 g4 g5 ht (fun M1 h1 w1 => ?_))
        have hr65 : M1.1 65 = M.1 65 := h1.2 65 (by decide)
        apply wp_X9_breaks_64
        refine whyNot_ok (by rw [hr65]; exact v1) _ _ _ (fun hno => (hno ja jb jc g1 g2 g3 g4 g5 rfl rfl rfl).elim) (fun ja' jb' jc' f1 f2 f3 f4 f5 e1 e2 e3 => ?_)
        have q1 := nI_inj (by omega) (by omega) e1
        have q2 := nI_inj (by omega) (by omega) e2
        have q3 := nI_inj (by omega) (by omega) e3
        subst q1 q2 q3
        rw [hr65, ht, why_0 h6]
        refine ite_n (by decide) (breaksByR (RW_of hI.1) hr65 h6 g1 g2 g3 g4 g5 ht (fun M2 h2 e2 => ⟨rfl, Inv_br hI h1 w1 h2 ?_⟩))
        rw [e2]
        exact SE_back v1 h6 _ _ _
      · rw [why_4 h6] at no ⊢
        refine ite_n (by decide) ⟨vin (by decide), ?_⟩
        exact bad 4 (by decide) (by decide) (no 4 rfl)
    · rw [ht] at no
      rw [why_t] at no ⊢
      refine ite_n (by decide) ⟨vin (by decide), ?_⟩
      exact bad 3 (by decide) (by decide) (no 3 rfl)
