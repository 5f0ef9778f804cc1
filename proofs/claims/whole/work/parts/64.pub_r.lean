/-! ===== rows, span ===== -/
def PBL (xs : gX) (d : Nat) (mc mr : gM) (ac : List Value) (M : Mem) : Prop := ML xs (d + 7) mc (.ref 0 :: ac) M (fun r1 M1 => ML xs (d + 7) mr (.ref 64 :: ac) M1 (fun r2 M2 => r1 = r2 ∧ Inv M2))
theorem fw_63 {s : Nat → Int32} (hV : VS s) {p : Nat} (hp : p ≤ 8) (x : Nat) : fw (dn s) (dg s) p x < 2 ^ 63 := by
  have h1 := fw_le (nn := dn s) (g := dg s) (fun p => dn_8 hV p) p x
  have h2 := p8_le hp
  omega
theorem bw_63 {s : Nat → Int32} (hV : VS s) {k : Nat} (hk : k ≤ 8) (p x : Nat) : bw (dn s) (dg s) k p x < 2 ^ 63 := by
  have h1 := bw_le (nn := dn s) (g := dg s) (fun p => dn_8 hV p) k p x
  have h2 := p8_le hk
  omega
/-- the class's rows ahead -/
def WBS (M1 : Mem) (s : Nat → Int32) (p ah : Nat) : Prop := (p = 0 ∧ ah = 1 ∧ M1.1 27 0 = -1 ∧ M1.2 28 0 = lN 1) ∨ ∃ q, p = q + 1 ∧ ah = dn s q ∧ ∀ i, i < dn s q → M1.1 27 i = nI (dg s q i) ∧ M1.2 28 i = lN (fw (dn s) (dg s) q (dg s q i))
theorem waysGen {xs : gX} {d : Nat} {M1 : Mem} {Q : Int64 → Mem → Prop} {x : Int32} {ah : Nat} (t : Nat → Nat) (c : Nat → Prop) [DecidablePred c] (h8 : ah ≤ 8) (ht : ∀ i, i < ah → M1.2 28 i = lN (t i)) (hc : ∀ i, i < ah → (M1.1 27 i < x ↔ c i)) (hQ : Q (lN (sg (fun i => if c i then t i else 0) ah)) M1) : ML xs d mX2_waysBefore [.ref 22, .int x, .int (nI ah)] M1 Q := by
  have key : ∀ m i, i + m = ah → GW xs d mX2_waysBefore 5 [(0, .ref 22), (1, .int x), (2, .int (nI ah)), (3, .long (lN (sg (fun i => if c i then t i else 0) i))), (5, .int (nI i))] [] M1 (QL Q) := by
    intro m
    induction m with
    | zero =>
      intro i hi
      obtain rfl : i = ah := by omega
      apply wp_X2_waysBefore_22_L5
      exact ite_n (nI_nltI (by omega) (by omega) (by omega)) hQ
    | succ m ih =>
      intro i hi
      have ih := ih (i + 1) (by omega)
      rw [show sg (fun i => if c i then t i else 0) (i + 1) = sg (fun i => if c i then t i else 0) i + (if c i then t i else 0) from rfl] at ih
      apply wp_X2_waysBefore_22_L5
      rw [nn_at (n := i) (by omega), ht i (by omega), nI_1, lN_add]
      refine ite_p (nI_ltI' (by omega) (by omega) (by omega)) ⟨vin_n (by omega) (by decide), ?_⟩
      by_cases q : c i
      · rw [if_pos q] at ih
        exact ite_p ((hc i (by omega)).mpr q) ih
      · rw [if_neg q, Nat.add_zero] at ih
        exact ite_n (fun z => q ((hc i (by omega)).mp z)) ih
  apply wp_X2_waysBefore_22
  exact key ah 0 (by omega)
theorem ways_ok {xs : gX} {d : Nat} {M1 : Mem} {Q : Int64 → Mem → Prop} {s : Nat → Int32} {p ah x : Nat} (hV : VS s) (h : WBS M1 s p ah) (hx : x ≤ 73000) (hQ : Q (lN (fw (dn s) (dg s) p x)) M1) : ML xs d mX2_waysBefore [.ref 22, .int (nI x), .int (nI ah)] M1 Q := by
  rcases h with ⟨rfl, rfl, h1, h2⟩ | ⟨q, rfl, rfl, h1⟩
  · refine waysGen (fun _ => 1) (fun _ => True) (by omega) (fun i hi => by rw [show i = 0 by omega]; exact h2) (fun i hi => ⟨fun _ => trivial, fun _ => ?_⟩) hQ
    rw [show i = 0 by omega, h1, Int32.lt_iff_toInt_lt, nI_toInt (by omega)]
    have : (-1 : Int32).toInt = -1 := by decide
    omega
  · have d8 := dn_8 hV q
    refine waysGen (fun i => fw (dn s) (dg s) q (dg s q i)) (fun i => dg s q i < x) d8 (fun i hi => (h1 i hi).2) (fun i hi => ?_) hQ
    have := dg_lt q i hi
    rw [(h1 i hi).1]
    exact nI_ltI (by omega) (by omega)
theorem countRows_ok {xs : gX} {d : Nat} {M M1 : Mem} {Q : Int64 → Mem → Prop} (hI : IWM M) (h : F1 M M1) (hQ : ∀ M2, F1 M M2 → Q (lN (fw (dn (M.1 65)) (dg (M.1 65)) (N (M.1 65) 2) 73000)) M2) : ML xs (d + 3) mX2_countRows [.ref 22, .ref 15] M1 Q := by
  have hV := hI.1.1
  have hP : M.1 22 2 = nI (N (M.1 65) 2) := hI.2.2.1.2.1.trans hI.2.2.1.1.1
  have hP8 := hI.2.2.1.1.2.1
  obtain ⟨s, hs⟩ : ∃ s, s = M.1 65 := ⟨_, rfl⟩
  obtain ⟨np, hnp⟩ : ∃ np, np = N s 2 := ⟨_, rfl⟩
  rw [← hs] at hV hP hP8 hQ
  rw [← hnp] at hP hP8 hQ
  have outer : ∀ m p ah M2, p + m = np → F1 M M2 → WBS M2 s p ah → GW xs (d + 3) mX2_countRows 18 [(0, .ref 22), (1, .ref 15), (2, .int (nI ah)), (3, .int (nI p))] [] M2 (QL Q) := by
    intro m
    induction m with
    | zero =>
      intro p ah M2 hp hF hW
      obtain rfl : p = np := by omega
      apply wp_X2_countRows_22_15_L18
      rw [hF 22 (by decide), hP]
      refine ite_n (nI_nltI (by omega) (by omega) (by omega)) ?_
      exact ways_ok (x := 73000) hV hW (by omega) (hQ M2 hF)
    | succ m ihm =>
      intro p ah M2 hp hF hW
      have d8 := dn_8 hV p
      apply wp_X2_countRows_22_15_L18
      rw [hF 22 (by decide), hP]
      refine ite_p (nI_ltI' (by omega) (by omega) (by omega)) (listDays_ok hI hF (by rw [← hs, ← hnp]; omega) (fun f hf => ?_))
      rw [← hs] at hf ⊢
      have h2f : F1 M (mwA M2 25 f) := F1_25 hF f
      have hWf : WBS (mwA M2 25 f) s p ah := by
        rcases hW with ⟨a1, a2, a3, a4⟩ | ⟨q, a1, a2, a3⟩
        · exact .inl ⟨a1, a2, by rw [mwA_ne _ _ (by decide)]; exact a3, a4⟩
        · exact .inr ⟨q, a1, a2, fun i hi => ⟨by rw [mwA_ne _ _ (by decide)]; exact (a3 i hi).1, (a3 i hi).2⟩⟩
      have inner : ∀ m i M3, i + m = dn s p → F1 M M3 → WBS M3 s p ah → M3.1 25 = f → (∀ j, j < i → M3.2 26 j = lN (fw (dn s) (dg s) p (dg s p j))) → GW xs (d + 3) mX2_countRows 37 [(0, .ref 22), (1, .ref 15), (2, .int (nI ah)), (3, .int (nI p)), (4, .int (nI (dn s p))), (5, .int (nI i))] [] M3 (QL Q) := by
        intro m
        induction m with
        | zero =>
          intro i M3 hi hF3 hW3 h25 h26
          obtain rfl : i = dn s p := by omega
          apply wp_X2_countRows_22_15_L37
          have hc : CPK 0 0 (nI (dn s p)) 8 8 := ⟨by decide, by decide, nI_lt0 (by omega), by rw [nn_at (n := dn s p) (by omega)]; show 0 + dn s p ≤ 8; omega, by rw [nn_at (n := dn s p) (by omega)]; show 0 + dn s p ≤ 8; omega⟩
          rw [nn_at (n := dn s p) (by omega)]
          simp only [nI_1]
          refine ite_n (nI_nltI (by omega) (by omega) (by omega)) ⟨hc, hc, ihm (p + 1) (dn s p) _ (by omega) (fun k hk => ?_) (.inr ⟨p, rfl, rfl, fun j hj => ⟨?_, ?_⟩⟩)⟩
          · rw [mlA_1, mwA_ne _ _ (fun e => hk (by rw [e]; decide))]; exact hF3 k hk
          · rw [mlA_1, mwA_at, pk_cpy_in (Nat.zero_le _) (by omega), h25, show 0 + (j - 0) = j by omega]
            exact hf j hj
          · rw [mlA_at, pk_cpy_in (Nat.zero_le _) (by omega), show 0 + (j - 0) = j by omega]
            exact h26 j hj
        | succ m ih =>
          intro i M3 hi hF3 hW3 h25 h26
          apply wp_X2_countRows_22_15_L37
          rw [nn_at (n := i) (by omega), h25, hf i (by omega), nI_1]
          have g73 := dg_lt (s := s) p i (by omega)
          refine ite_p (nI_ltI' (by omega) (by omega) (by omega)) ⟨vin_n (by omega) (by decide), ways_ok hV hW3 (by omega) (ih (i + 1) _ (by omega) (fun k hk => by rw [ml_1]; exact hF3 k hk) ?_ (by rw [ml_1]; exact h25) (fun j hj => ?_))⟩
          · rcases hW3 with ⟨a1, a2, a3, a4⟩ | ⟨q, a1, a2, a3⟩
            · exact .inl ⟨a1, a2, a3, by rw [ml_ne _ _ _ (by decide)]; exact a4⟩
            · exact .inr ⟨q, a1, a2, fun j hj => ⟨(a3 j hj).1, by rw [ml_ne _ _ _ (by decide)]; exact (a3 j hj).2⟩⟩
          · rw [ml_at]
            by_cases e : j = i
            · subst e; rw [pk_uLs]
            · rw [pk_uLn e]; exact h26 j (by omega)
      exact inner (dn s p) 0 _ (by omega) h2f hWf (mwA_at _ _ _) (fun j hj => absurd hj (Nat.not_lt_zero j))
  apply wp_X2_countRows_22_15
  refine outer np 0 1 _ (by omega) (fun k hk => ?_) (.inl ⟨rfl, rfl, ?_, ?_⟩)
  · rw [ml_1, mw_ne _ _ _ (fun e => hk (by rw [e]; decide))]; exact h k hk
  · rw [ml_1, mw_at, upd_at]
  · rw [ml_at, pk_uLs]; rfl
/-- the reference's rows ahead and behind -/
def AHd (M2 : Mem) (s : Nat → Int32) (n : Nat) : Prop := ∀ q, q < n → ∀ i, i < dn s q → M2.2 74 (8 * q + i) = lN (fw (dn s) (dg s) q (dg s q i))
def BHd (M2 : Mem) (s : Nat → Int32) (np n : Nat) : Prop := ∀ q, n ≤ q → q < np → ∀ i, i < dn s q → M2.2 75 (8 * q + i) = lN (bw (dn s) (dg s) (np - 1 - q) (q + 1) (dg s q i + 1))
theorem m1_eq (p : Nat) : nI p + (-1) = nI p - 1 := by rw [Int32.sub_eq_add_neg]
theorem dm_lt {h x : Nat} (hh : h < 2 ^ 30) (hx : x < 2 ^ 30) : nI h - 1 < nI x ↔ h ≤ x := by
  have e := pk_sub_toInt (a := h) (b := 1) hh (by decide)
  rw [Int32.lt_iff_toInt_lt, show (1 : Int32) = nI 1 from rfl, e, nI_toInt (by omega)]
  omega
theorem findRows_ok {xs : gX} {d : Nat} {M M1 : Mem} {Q : Mem → Prop} (hI : IWM M) (h : F1 M M1) (h0 : 0 < N (M.1 65) 2) (hQ : ∀ M2, F1 M M2 → MAY M2 (M.1 65) (N (M.1 65) 2) → AHd M2 (M.1 65) (N (M.1 65) 2) → BHd M2 (M.1 65) (N (M.1 65) 2) 0 → Q M2) : MV xs (d + 4) mX9_findRows [.ref 64] M1 Q := by
  have hV := hI.1.1
  have hP : M.1 65 2 = nI (N (M.1 65) 2) := hI.2.2.1.1.1
  have hP8 := hI.2.2.1.1.2.1
  apply wp_X9_findRows_64
  refine findMay_ok hI h (fun Mm y1 y2 y3 => ?_)
  have r65 := (F1s65 y2)
  obtain ⟨s, hs⟩ : ∃ s, s = M.1 65 := ⟨_, rfl⟩
  obtain ⟨np, hnp⟩ : ∃ np, np = N s 2 := ⟨_, rfl⟩
  rw [← hs] at hV hP8 hQ y3 r65 h0 hP
  rw [← hnp] at hP8 hQ y3 h0 hP
  have m2 : Mm.1 65 2 = nI np := by rw [r65]; exact hP
  have down : ∀ m M2, m ≤ np → M2.1 = Mm.1 → AHd M2 s np → BHd M2 s np m → GW xs (d + 4) mX9_findRows 155 [(0, .ref 64), (1, .int (nI (np - 1))), (2, .int (nI m - 1))] [] M2 (QV Q) := by
    intro m
    induction m with
    | zero =>
      intro M2 hm e1 hA hB
      apply wp_X9_findRows_64_L155
      refine ite_p (by decide) (hQ M2 (fun k hk => by rw [e1]; exact y2 k hk) (fun p hp => by rw [e1]; exact y3 p hp) hA hB)
    | succ p ihp =>
      intro M2 hm e1 hA hB
      have d8 := dn_8 hV p
      have d8' := dn_8 hV (p + 1)
      obtain ⟨z1, z2⟩ := y3 p (by omega)
      apply wp_X9_findRows_64_L155
      rw [nI_pred]
      refine ite_n (nI_lt0 (by omega)) ?_
      have lines : ∀ m i M2, i + m = dn s p → M2.1 = Mm.1 → AHd M2 s np → BHd M2 s np (p + 1) → (∀ j, j < i → M2.2 75 (8 * p + j) = lN (bw (dn s) (dg s) (np - 1 - p) (p + 1) (dg s p j + 1))) → GW xs (d + 4) mX9_findRows 161 [(0, .ref 64), (1, .int (nI (np - 1))), (2, .int (nI p)), (3, .int (nI i))] [] M2 (QV Q) := by
        intro m
        induction m with
        | zero =>
          intro i M2 hi e1 hA hB hL
          obtain rfl : i = dn s p := by omega
          apply wp_X9_findRows_64_L161
          rw [nn_at (n := p) (by omega), e1, z1, m1_eq]
          refine ⟨vin_n (by omega) (by decide), ite_n (nI_nltI (by omega) (by omega) (by omega)) (ihp M2 (by omega) e1 hA (fun q hq hq2 j hj => ?_))⟩
          by_cases e : q = p
          · rw [e] at hj ⊢; exact hL j hj
          · exact hB q (by omega) hq2 j hj
        | succ m ihi =>
          intro i M2 hi e1 hA hB hL
          -- the sum over the paper behind
          have sums : ∀ m k M2 v, k + m = dn s (p + 1) → p < np - 1 → M2.1 = Mm.1 → AHd M2 s np → BHd M2 s np (p + 1) → (∀ j, j < i → M2.2 75 (8 * p + j) = lN (bw (dn s) (dg s) (np - 1 - p) (p + 1) (dg s p j + 1))) → M2.2 75 (8 * p + i) = lN v → v = sg (fun j => if dg s p i + 1 ≤ dg s (p + 1) j then bw (dn s) (dg s) (np - 2 - p) (p + 1 + 1) (dg s (p + 1) j + 1) else 0) k → GW xs (d + 4) mX9_findRows 195 [(0, .ref 64), (1, .int (nI (np - 1))), (2, .int (nI p)), (3, .int (nI i)), (4, .int (nI k))] [] M2 (QV Q) := by
            intro m
            induction m with
            | zero =>
              intro k M2 v hk hlast e1 hA hB hL hv ev
              obtain rfl : k = dn s (p + 1) := by omega
              obtain ⟨z1', z2'⟩ := y3 (p + 1) (by omega)
              apply wp_X9_findRows_64_L195
              rw [nI_1, nn_at (n := p + 1) (by omega), e1, z1']
              simp only [nI_1]
              refine ite_p (nI_ltI' (by omega) (by omega) hlast) ⟨vin_n (by omega) (by decide), ite_n (nI_nltI (by omega) (by omega) (by omega)) (ihi (i + 1) M2 (by omega) e1 hA hB (fun j hj => ?_))⟩
              by_cases e : j = i
              · subst e
                rw [hv, ev, show np - 1 - p = (np - 2 - p) + 1 by omega]
                rfl
              · exact hL j (by omega)
            | succ m ihk =>
              intro k M2 v hk hlast e1 hA hB hL hv ev
              obtain ⟨z1', z2'⟩ := y3 (p + 1) (by omega)
              have g1 := dg_lt (s := s) p i (by omega)
              have g2 := dg_lt (s := s) (p + 1) k (by omega)
              have hb := hB (p + 1) (by omega) (by omega) k (by omega)
              have zc := z2 i (by omega)
              have zd := z2' k (by omega)
              rw [show 8 * (p + 1) + k = 8 * p + 8 + k by omega] at hb zd
              apply wp_X9_findRows_64_L195
              rw [nI_1, nn_at (n := p + 1) (by omega), e1, z1', b8, nn_at (n := 8 * p + i) (by omega), show ((8 * nI p) + 8) + nI k = nI (8 * p + 8 + k) by simp only [i_lit, nI_mul, nI_add], nn_at (n := 8 * p + 8 + k) (by omega), zc, zd, hv, hb, lN_add, show lN v + 0 = lN v from lN_add v 0, nI_1]
              refine ite_p (nI_ltI' (by omega) (by omega) hlast) ⟨vin_n (by omega) (by decide), ite_p (nI_ltI' (by omega) (by omega) (by omega)) ⟨vin_n (by omega) (by decide), vin_n (by omega) (by decide), ?_⟩⟩
              have next : ∀ v', v' = sg (fun j => if dg s p i + 1 ≤ dg s (p + 1) j then bw (dn s) (dg s) (np - 2 - p) (p + 1 + 1) (dg s (p + 1) j + 1) else 0) (k + 1) → GW xs (d + 4) mX9_findRows 195 [(0, .ref 64), (1, .int (nI (np - 1))), (2, .int (nI p)), (3, .int (nI i)), (4, .int (nI (k + 1)))] [] (ml M2 75 (8 * p + i) (lN v')) (QV Q) := by
                intro v' hv'
                refine ihk (k + 1) _ v' (by omega) hlast (by rw [ml_1]; exact e1) (fun q hq j hj => by rw [ml_ne _ _ _ (by decide)]; exact hA q hq j hj) (fun q hq hq2 j hj => ?_) (fun j hj => ?_) (by rw [ml_at, pk_uLs]) hv'
                · rw [ml_at, pk_uLn (by omega)]; exact hB q hq hq2 j hj
                · rw [ml_at, pk_uLn (by omega)]; exact hL j hj
              rw [show sg (fun j => if dg s p i + 1 ≤ dg s (p + 1) j then bw (dn s) (dg s) (np - 2 - p) (p + 1 + 1) (dg s (p + 1) j + 1) else 0) (k + 1) = sg (fun j => if dg s p i + 1 ≤ dg s (p + 1) j then bw (dn s) (dg s) (np - 2 - p) (p + 1 + 1) (dg s (p + 1) j + 1) else 0) k + (if dg s p i + 1 ≤ dg s (p + 1) k then bw (dn s) (dg s) (np - 2 - p) (p + 1 + 1) (dg s (p + 1) k + 1) else 0) from rfl] at next
              by_cases q : dg s p i < dg s (p + 1) k
              · rw [if_pos (show dg s p i + 1 ≤ dg s (p + 1) k from q)] at next
                refine ite_p (nI_ltI' (by omega) (by omega) q) (next _ ?_)
                rw [ev, show np - 1 - (p + 1) = np - 2 - p by omega]
              · rw [if_neg (show ¬ dg s p i + 1 ≤ dg s (p + 1) k from q), Nat.add_zero] at next
                exact ite_n (nI_nltI (by omega) (by omega) (by omega)) (next v ev)
          have zc := z2 i (by omega)
          apply wp_X9_findRows_64_L161
          rw [nn_at (n := p) (by omega), e1, z1, b8, nn_at (n := 8 * p + i) (by omega)]
          refine ⟨vin_n (by omega) (by decide), ite_p (nI_ltI' (by omega) (by omega) (by omega)) ?_⟩
          have st : ∀ x : Int64, (∀ q, q < np → ∀ j, j < dn s q → (ml M2 75 (8 * p + i) x).2 74 (8 * q + j) = lN (fw (dn s) (dg s) q (dg s q j))) ∧ (∀ q, p + 1 ≤ q → q < np → ∀ j, j < dn s q → (ml M2 75 (8 * p + i) x).2 75 (8 * q + j) = lN (bw (dn s) (dg s) (np - 1 - q) (q + 1) (dg s q j + 1))) ∧ (∀ j, j < i → (ml M2 75 (8 * p + i) x).2 75 (8 * p + j) = lN (bw (dn s) (dg s) (np - 1 - p) (p + 1) (dg s p j + 1))) := by
            intro x
            refine ⟨fun q hq j hj => ?_, fun q hq hq2 j hj => ?_, fun j hj => ?_⟩
            · rw [ml_ne _ _ _ (by decide)]; exact hA q hq j hj
            · rw [ml_at, pk_uLn (by omega)]; exact hB q hq hq2 j hj
            · rw [ml_at, pk_uLn (by omega)]; exact hL j hj
          by_cases q : p = np - 1
          · refine ite_p (by rw [q]) ⟨vin_n (by omega) (by decide), ?_⟩
            obtain ⟨t1, t2, t3⟩ := st 1
            apply wp_X9_findRows_64_L195
            simp only [nI_1]
            refine ite_n (nI_nltI (by omega) (by omega) (by omega)) (ihi (i + 1) _ (by omega) (by rw [ml_1]; exact e1) t1 t2 (fun j hj => ?_))
            by_cases e : j = i
            · subst e
              rw [ml_at, pk_uLs, show np - 1 - p = 0 by omega]; rfl
            · exact t3 j (by omega)
          · refine ite_n (nI_ne (by omega) (by omega) q) ⟨vin_n (by omega) (by decide), ?_⟩
            obtain ⟨t1, t2, t3⟩ := st 0
            exact sums (dn s (p + 1)) 0 _ 0 (by omega) (by omega) (by rw [ml_1]; exact e1) t1 t2 t3 (by rw [ml_at, pk_uLs]; rfl) rfl
      exact lines (dn s p) 0 M2 (by omega) e1 hA hB (fun j hj => absurd hj (Nat.not_lt_zero j))
  have up : ∀ m p M2, p + m = np → M2.1 = Mm.1 → AHd M2 s p → GW xs (d + 4) mX9_findRows 6 [(0, .ref 64), (1, .int (nI p))] [] M2 (QV Q) := by
    intro m
    induction m with
    | zero =>
      intro p M2 hp e1 hA
      obtain rfl : p = np := by omega
      apply wp_X9_findRows_64_L6
      rw [e1, m2, show nI p - 1 = nI (p - 1) by rw [show nI p = nI (p - 1 + 1) by rw [show p - 1 + 1 = p by omega]]; exact nI_pred _]
      refine ite_n (nI_nltI (by omega) (by omega) (by omega)) ?_
      have hd := down p M2 (Nat.le_refl _) e1 hA (fun q h1 h2 => by omega)
      rw [show nI p - 1 = nI (p - 1) by rw [show nI p = nI (p - 1 + 1) by rw [show p - 1 + 1 = p by omega]]; exact nI_pred _] at hd
      exact hd
    | succ m ihm =>
      intro p M2 hp e1 hA
      have d8 := dn_8 hV p
      obtain ⟨z1, z2⟩ := y3 p (by omega)
      apply wp_X9_findRows_64_L6
      rw [e1, m2]
      refine ite_p (nI_ltI' (by omega) (by omega) (by omega)) ?_
      have lines : ∀ m i M2, i + m = dn s p → M2.1 = Mm.1 → AHd M2 s p → (∀ j, j < i → M2.2 74 (8 * p + j) = lN (fw (dn s) (dg s) p (dg s p j))) → GW xs (d + 4) mX9_findRows 18 [(0, .ref 64), (1, .int (nI p)), (2, .int (nI i))] [] M2 (QV Q) := by
        intro m
        induction m with
        | zero =>
          intro i M2 hi e1 hA hL
          obtain rfl : i = dn s p := by omega
          apply wp_X9_findRows_64_L18
          rw [nn_at (n := p) (by omega), e1, z1, nI_1]
          refine ⟨vin_n (by omega) (by decide), ite_n (nI_nltI (by omega) (by omega) (by omega)) (ihm (p + 1) M2 (by omega) e1 (fun q hq j hj => ?_))⟩
          by_cases e : q = p
          · rw [e] at hj ⊢; exact hL j hj
          · exact hA q (by omega) j hj
        | succ m ihi =>
          intro i M2 hi e1 hA hL
          have zc := z2 i (by omega)
          have st : ∀ x : Int64, (∀ q, q < p → ∀ j, j < dn s q → (ml M2 74 (8 * p + i) x).2 74 (8 * q + j) = lN (fw (dn s) (dg s) q (dg s q j))) ∧ (∀ j, j < i → (ml M2 74 (8 * p + i) x).2 74 (8 * p + j) = lN (fw (dn s) (dg s) p (dg s p j))) := by
            intro x
            refine ⟨fun q hq j hj => ?_, fun j hj => ?_⟩
            · have := dn_8 hV q
              rw [ml_at, pk_uLn (by omega)]; exact hA q hq j hj
            · rw [ml_at, pk_uLn (by omega)]; exact hL j hj
          apply wp_X9_findRows_64_L18
          rw [nn_at (n := p) (by omega), e1, z1, b8, nn_at (n := 8 * p + i) (by omega)]
          refine ⟨vin_n (by omega) (by decide), ite_p (nI_ltI' (by omega) (by omega) (by omega)) ?_⟩
          by_cases q : p = 0
          · refine ite_p (by rw [q]; rfl) ⟨vin_n (by omega) (by decide), ?_⟩
            obtain ⟨t1, t3⟩ := st 1
            apply wp_X9_findRows_64_L50
            simp only [nI_1]
            refine ite_n (by rw [q]; decide) (ihi (i + 1) _ (by omega) (by rw [ml_1]; exact e1) t1 (fun j hj => ?_))
            by_cases e : j = i
            · subst e
              rw [ml_at, pk_uLs, q]; rfl
            · exact t3 j (by omega)
          · refine ite_n (nI_ne (b := 0) (by omega) (by decide) q) ⟨vin_n (by omega) (by decide), ?_⟩
            obtain ⟨t1, t3⟩ := st 0
            obtain ⟨p1, rfl⟩ : ∃ p1, p = p1 + 1 := ⟨p - 1, by omega⟩
            obtain ⟨z1', z2'⟩ := y3 p1 (by omega)
            have d8' := dn_8 hV p1
            have sums : ∀ m k M2 v, k + m = dn s p1 → M2.1 = Mm.1 → AHd M2 s (p1 + 1) → (∀ j, j < i → M2.2 74 (8 * (p1 + 1) + j) = lN (fw (dn s) (dg s) (p1 + 1) (dg s (p1 + 1) j))) → M2.2 74 (8 * (p1 + 1) + i) = lN v → v = sg (fun j => if dg s p1 j < dg s (p1 + 1) i then fw (dn s) (dg s) p1 (dg s p1 j) else 0) k → GW xs (d + 4) mX9_findRows 50 [(0, .ref 64), (1, .int (nI (p1 + 1))), (2, .int (nI i)), (3, .int (nI k))] [] M2 (QV Q) := by
              intro m
              induction m with
              | zero =>
                intro k M2 v hk e1 hA hL hv ev
                obtain rfl : k = dn s p1 := by omega
                apply wp_X9_findRows_64_L50
                rw [nI_pred, nn_at (n := p1) (by omega), e1, z1']
                simp only [nI_1]
                refine ite_p (nI_ltI' (a := 0) (by omega) (by omega) (by omega)) ⟨vin_n (by omega) (by decide), ite_n (nI_nltI (by omega) (by omega) (by omega)) (ihi (i + 1) M2 (by omega) e1 hA (fun j hj => ?_))⟩
                by_cases e : j = i
                · subst e
                  rw [hv, ev]; rfl
                · exact hL j (by omega)
              | succ m ihk =>
                intro k M2 v hk e1 hA hL hv ev
                have g1 := dg_lt (s := s) (p1 + 1) i (by omega)
                have g2 := dg_lt (s := s) p1 k (by omega)
                have ha := hA p1 (by omega) k (by omega)
                have zd := z2' k (by omega)
                apply wp_X9_findRows_64_L50
                rw [nI_pred, nn_at (n := p1) (by omega), e1, z1', b8, nn_at (n := 8 * (p1 + 1) + i) (by omega), show ((8 * nI (p1 + 1)) - 8) + nI k = nI (8 * p1 + k) by
                  rw [show 8 * nI (p1 + 1) = nI (8 * p1 + 8) by simp only [i_lit, nI_mul]; rw [Nat.mul_add], show nI (8 * p1 + 8) - 8 = nI (8 * p1) from pk_sub (a := 8 * p1 + 8) (b := 8) (by omega), nI_add], nn_at (n := 8 * p1 + k) (by omega), zc, zd, hv, ha, lN_add, show lN v + 0 = lN v from lN_add v 0, nI_1]
                refine ite_p (nI_ltI' (a := 0) (by omega) (by omega) (by omega)) ⟨vin_n (by omega) (by decide), ite_p (nI_ltI' (by omega) (by omega) (by omega)) ⟨vin_n (by omega) (by decide), vin_n (by omega) (by decide), ?_⟩⟩
                have next : ∀ v', v' = sg (fun j => if dg s p1 j < dg s (p1 + 1) i then fw (dn s) (dg s) p1 (dg s p1 j) else 0) (k + 1) → GW xs (d + 4) mX9_findRows 50 [(0, .ref 64), (1, .int (nI (p1 + 1))), (2, .int (nI i)), (3, .int (nI (k + 1)))] [] (ml M2 74 (8 * (p1 + 1) + i) (lN v')) (QV Q) := by
                  intro v' hv'
                  refine ihk (k + 1) _ v' (by omega) (by rw [ml_1]; exact e1) (fun q hq j hj => ?_) (fun j hj => ?_) (by rw [ml_at, pk_uLs]) hv'
                  · have := dn_8 hV q
                    rw [ml_at, pk_uLn (by omega)]; exact hA q hq j hj
                  · rw [ml_at, pk_uLn (by omega)]; exact hL j hj
                rw [show sg (fun j => if dg s p1 j < dg s (p1 + 1) i then fw (dn s) (dg s) p1 (dg s p1 j) else 0) (k + 1) = sg (fun j => if dg s p1 j < dg s (p1 + 1) i then fw (dn s) (dg s) p1 (dg s p1 j) else 0) k + (if dg s p1 k < dg s (p1 + 1) i then fw (dn s) (dg s) p1 (dg s p1 k) else 0) from rfl] at next
                by_cases q : dg s p1 k < dg s (p1 + 1) i
                · rw [if_pos q] at next
                  exact ite_p (nI_ltI' (by omega) (by omega) q) (next _ (by rw [ev]))
                · rw [if_neg q, Nat.add_zero] at next
                  exact ite_n (nI_nltI (by omega) (by omega) (by omega)) (next v ev)
            exact sums (dn s p1) 0 _ 0 (by omega) (by rw [ml_1]; exact e1) t1 t3 (by rw [ml_at, pk_uLs]; rfl) rfl
      exact lines (dn s p) 0 M2 (by omega) e1 hA (fun j hj => absurd hj (Nat.not_lt_zero j))
  exact up np 0 Mm (by omega) rfl (fun q hq => absurd hq (Nat.not_lt_zero q))
theorem P_rows {xs : gX} {d : Nat} {M : Mem} (hI : Inv M) : PBL xs d mX8_rows mX9_rows [] M := by
  obtain ⟨⟨v1, i1⟩, ⟨v2, i2⟩, ⟨v3, i3⟩, ⟨v4, i4⟩, i5⟩ := id hI.1
  have hT0 : M.1 65 1 = nI (N (M.1 65) 1) := v2.1
  have hT1 : M.1 20 1 = nI (N (M.1 65) 1) := i2.1.trans v2.1
  have hTn := v2.2.1
  have hP0 : M.1 65 2 = nI (N (M.1 65) 2) := v3.1
  have hP1 : M.1 22 2 = nI (N (M.1 65) 2) := i3.1.trans v3.1
  have hPn := v3.2.1
  have hS0 : M.1 65 0 = nI (ns (M.1 65)) := v1.1
  have hS1 : M.1 15 4 = nI (ns (M.1 65)) := i1.1.trans v1.1
  have hSn := v1.2.1
  apply wp_X8_rows_0
  refine countRows_ok hI.1 F1.rfl' (fun M1 h1 => ?_)
  apply wp_X9_rows_64
  rw [(F1s65 h1), hP0]
  by_cases h0 : N (M.1 65) 2 = 0
  · rw [h0]
    exact ite_p rfl ⟨rfl, Inv_scr hI h1⟩
  · refine ite_n (nI_ne (b := 0) (by omega) (by decide) h0) (findRows_ok hI.1 h1 (by omega) (fun M2 h2 hA hF hB => ?_))
    have d8 := dn_8 v1 0
    obtain ⟨z1, z2⟩ := hA 0 (by omega)
    have key : ∀ m i, i + m = dn (M.1 65) 0 → GW xs (d + 7) mX9_rows 19 [(0, .ref 64), (1, .long (lN (sg (fun i => bw (dn (M.1 65)) (dg (M.1 65)) (N (M.1 65) 2 - 1) 1 (dg (M.1 65) 0 i + 1)) i))), (3, .int (nI i))] [] M2 (QL (fun r2 M3 => lN (fw (dn (M.1 65)) (dg (M.1 65)) (N (M.1 65) 2) 73000) = r2 ∧ Inv M3)) := by
      intro m
      induction m with
      | zero =>
        intro i hi
        obtain rfl : i = dn (M.1 65) 0 := by omega
        apply wp_X9_rows_64_L19
        rw [z1]
        refine ite_n (nI_nltI (by omega) (by omega) (by omega)) ⟨?_, Inv_scr hI h2⟩
        have e := fb_all (dn (M.1 65)) (dg (M.1 65)) 0 (N (M.1 65) 2 - 1)
        rw [show 0 + (N (M.1 65) 2 - 1) + 1 = N (M.1 65) 2 by omega] at e
        rw [fb_total (fun p i _ hi => dg_lt p i hi), ← e]
        congr 1
        refine sg_congr (fun i _ => ?_)
        exact Nat.one_mul _
      | succ m ih =>
        intro i hi
        have ih := ih (i + 1) (by omega)
        have hb := hB 0 (Nat.le_refl _) (by omega) i (by omega)
        rw [Nat.mul_zero, Nat.zero_add, Nat.sub_zero] at hb
        apply wp_X9_rows_64_L19
        rw [z1, nn_at (n := i) (by omega), hb, lN_add, nI_1]
        exact ite_p (nI_ltI' (by omega) (by omega) (by omega)) ⟨vin_n (by omega) (by decide), ih⟩
    exact key (dn (M.1 65) 0) 0 (by omega)
/-- span: the class's two ways -/
def lv1 : Option Nat → Int32
  | none => -1
  | some h => nI h - 1
def lsA (s : Nat → Int32) (np p : Nat) : Int32 := match lo (dn s) (dg s) np with
  | none => -1
  | some _ => lv1 (lo (dn s) (dg s) (p + 1))
def gsA (s : Nat → Int32) (np p : Nat) : Int32 := match hi (dn s) (dg s) np 0 with
  | none => -1
  | some _ => o2 (hi (dn s) (dg s) (np - p) p)
theorem leastOf_ok {xs : gX} {d : Nat} {M M1 : Mem} {Q : Int32 → Mem → Prop} {p : Nat} (hI : IWM M) (h : F1 M M1) (hp : p < N (M.1 65) 2) (hQ : ∀ M2, F1 M M2 → Q (lsA (M.1 65) (N (M.1 65) 2) p) M2) : MI xs (d + 3) mX2_leastOf [.ref 22, .ref 15, .int (nI p)] M1 Q := by
  have hV := hI.1.1
  have hP : M.1 22 2 = nI (N (M.1 65) 2) := hI.2.2.1.2.1.trans hI.2.2.1.1.1
  have hP8 := hI.2.2.1.1.2.1
  obtain ⟨s, hs⟩ : ∃ s, s = M.1 65 := ⟨_, rfl⟩
  obtain ⟨np, hnp⟩ : ∃ np, np = N s 2 := ⟨_, rfl⟩
  rw [← hs] at hV hP hP8 hQ hp
  rw [← hnp] at hP hP8 hQ hp
  have bad : ∀ i M2, i ≤ np → lo (dn s) (dg s) i = none → F1 M M2 → Q (-1) M2 := by
    intro i M2 hi hl hF
    have e := lo_none (m := np - i) hl
    rw [show i + (np - i) = np by omega] at e
    have := hQ M2 hF
    unfold lsA at this
    rw [e] at this
    exact this
  have outer : ∀ m i hh M2, i + m = np → lo (dn s) (dg s) i = some hh → F1 M M2 → GW xs (d + 3) mX2_leastOf 8 [(0, .ref 22), (1, .ref 15), (2, .int (nI p)), (3, .int (if p < i then lv1 (lo (dn s) (dg s) (p + 1)) else -1)), (4, .int (nI hh - 1)), (5, .int (nI i))] [] M2 (QI Q) := by
    intro m
    induction m with
    | zero =>
      intro i hh M2 hi hl hF
      obtain rfl : i = np := by omega
      apply wp_X2_leastOf_22_15_L8
      rw [hF 22 (by decide), hP]
      refine ite_n (nI_nltI (by omega) (by omega) (by omega)) ?_
      have := hQ M2 hF
      unfold lsA at this
      rw [hl] at this
      rw [if_pos hp]
      exact this
    | succ m ihm =>
      intro i hh M2 hi hl hF
      have d8 := dn_8 hV i
      have hh7 := lo_le (dg_srt s) (fun p i hi => dg_lt p i hi) hl
      apply wp_X2_leastOf_22_15_L8
      rw [hF 22 (by decide), hP]
      refine ite_p (nI_ltI' (by omega) (by omega) (by omega)) (listDays_ok hI hF (by rw [← hs, ← hnp]; omega) (fun f hf => ?_))
      rw [← hs] at hf ⊢
      have hF2 := F1_25 hF f
      have inner : ∀ m z, z + m = dn s i → fsN (dg s i) hh (dn s i) 0 = fsN (dg s i) hh m z → GW xs (d + 3) mX2_leastOf 29 [(0, .ref 22), (1, .ref 15), (2, .int (nI p)), (3, .int (if p < i then lv1 (lo (dn s) (dg s) (p + 1)) else -1)), (4, .int (nI hh - 1)), (5, .int (nI i)), (6, .int (nI (dn s i))), (7, .int (nI z))] [] (mwA M2 25 f) (QI Q) := by
        intro m
        induction m with
        | zero =>
          intro z hz hfs
          obtain rfl : z = dn s i := by omega
          apply wp_X2_leastOf_22_15_L29
          refine ite_n (nI_nltI (by omega) (by omega) (by omega)) (bad (i + 1) _ (by omega) ?_ hF2)
          unfold lo
          rw [hl]
          dsimp only
          rw [hfs]
          rfl
        | succ m ihz =>
          intro z hz hfs
          have g7 := dg_lt (s := s) i z (by omega)
          apply wp_X2_leastOf_22_15_L29
          rw [nn_at (n := z) (by omega), mwA_at, hf z (by omega), nI_1, nI_1]
          refine ite_p (nI_ltI' (by omega) (by omega) (by omega)) ⟨vin_n (by omega) (by decide), ?_⟩
          rw [fsN_s _ _ m z] at hfs
          by_cases q : hh ≤ dg s i z
          · rw [if_pos q] at hfs
            have hl1 : lo (dn s) (dg s) (i + 1) = some (dg s i z + 1) := by
              unfold lo
              rw [hl]
              dsimp only
              rw [show fsN (dg s i) hh (dn s i) 0 = some z from hfs]
            have ih := ihm (i + 1) _ (mwA M2 25 f) (by omega) hl1 hF2
            rw [nI_pred] at ih
            refine ite_p ((dm_lt (by omega) (by omega)).mpr q) ?_
            by_cases e : i = p
            · subst e
              rw [if_pos (by omega), hl1, show lv1 (some (dg s i z + 1)) = nI (dg s i z) from nI_pred _] at ih
              exact ite_p rfl ih
            · refine ite_n (nI_ne (by omega) (by omega) e) ?_
              rw [show (if p < i then lv1 (lo (dn s) (dg s) (p + 1)) else -1) = (if p < i + 1 then lv1 (lo (dn s) (dg s) (p + 1)) else -1) by
                by_cases e2 : p < i
                · rw [if_pos e2, if_pos (by omega)]
                · rw [if_neg e2, if_neg (by omega)]]
              exact ih
          · rw [if_neg q] at hfs
            exact ite_n (fun z => q ((dm_lt (by omega) (by omega)).mp z)) (ihz (z + 1) (by omega) hfs)
      exact inner (dn s i) 0 (by omega) rfl
  apply wp_X2_leastOf_22_15
  have := outer np 0 0 M1 (by omega) rfl h
  rw [if_neg (by omega)] at this
  exact this
theorem greatestOf_ok {xs : gX} {d : Nat} {M M1 : Mem} {Q : Int32 → Mem → Prop} {p : Nat} (hI : IWM M) (h : F1 M M1) (hp : p < N (M.1 65) 2) (hQ : ∀ M2, F1 M M2 → Q (gsA (M.1 65) (N (M.1 65) 2) p) M2) : MI xs (d + 3) mX2_greatestOf [.ref 22, .ref 15, .int (nI p)] M1 Q := by
  have hV := hI.1.1
  have hP : M.1 22 2 = nI (N (M.1 65) 2) := hI.2.2.1.2.1.trans hI.2.2.1.1.1
  have hP8 := hI.2.2.1.1.2.1
  obtain ⟨s, hs⟩ : ∃ s, s = M.1 65 := ⟨_, rfl⟩
  obtain ⟨np, hnp⟩ : ∃ np, np = N s 2 := ⟨_, rfl⟩
  rw [← hs] at hV hP hP8 hQ hp
  rw [← hnp] at hP hP8 hQ hp
  have bad : ∀ i M2, i ≤ np → hi (dn s) (dg s) (np - i) i = none → F1 M M2 → Q (-1) M2 := by
    intro i M2 hi' hl hF
    have e := hi_none (m := i) (k := np - i) (p := 0) (by rw [Nat.zero_add]; exact hl)
    rw [show np - i + i = np by omega] at e
    have := hQ M2 hF
    unfold gsA at this
    rw [e] at this
    exact this
  have outer : ∀ m u M2, m ≤ np → hi (dn s) (dg s) (np - m) m = some u → u ≤ 73000 → F1 M M2 → GW xs (d + 3) mX2_greatestOf 14 [(0, .ref 22), (1, .ref 15), (2, .int (nI p)), (3, .int (if m ≤ p then o2 (hi (dn s) (dg s) (np - p) p) else -1)), (4, .int (nI u)), (5, .int (nI m - 1))] [] M2 (QI Q) := by
    intro m
    induction m with
    | zero =>
      intro u M2 hm hl hu hF
      apply wp_X2_greatestOf_22_15_L14
      refine ite_p (by decide) ?_
      have := hQ M2 hF
      unfold gsA at this
      rw [Nat.sub_zero] at hl
      rw [hl] at this
      rw [if_pos (Nat.zero_le _)]
      exact this
    | succ i ihm =>
      intro u M2 hm hl hu hF
      have d8 := dn_8 hV i
      apply wp_X2_greatestOf_22_15_L14
      rw [nI_pred]
      refine ite_n (nI_lt0 (by omega)) (listDays_ok hI hF (by rw [← hs, ← hnp]; omega) (fun f hf => ?_))
      rw [← hs] at hf ⊢
      have hF2 := F1_25 hF f
      have inner : ∀ z, z ≤ dn s i → lsN (dg s i) u (dn s i) = lsN (dg s i) u z → GW xs (d + 3) mX2_greatestOf 30 [(0, .ref 22), (1, .ref 15), (2, .int (nI p)), (3, .int (if i + 1 ≤ p then o2 (hi (dn s) (dg s) (np - p) p) else -1)), (4, .int (nI u)), (5, .int (nI i)), (6, .int (nI z - 1))] [] (mwA M2 25 f) (QI Q) := by
        intro z
        induction z with
        | zero =>
          intro hz hfs
          apply wp_X2_greatestOf_22_15_L30
          refine ite_p (by decide) (bad i _ (by omega) ?_ hF2)
          rw [show np - i = (np - (i + 1)) + 1 by omega]
          unfold hi
          rw [hl]
          dsimp only
          rw [hfs]
          rfl
        | succ z ihz =>
          intro hz hfs
          have g7 := dg_lt (s := s) i z (by omega)
          apply wp_X2_greatestOf_22_15_L30
          rw [nI_pred, nn_at (n := z) (by omega), mwA_at, hf z (by omega), m1_eq, m1_eq]
          refine ite_n (nI_lt0 (by omega)) ⟨vin_n (by omega) (by decide), ?_⟩
          rw [lsN_s _ _ z] at hfs
          by_cases q : dg s i z < u
          · rw [if_pos q] at hfs
            have hl1 : hi (dn s) (dg s) (np - i) i = some (dg s i z) := by
              rw [show np - i = (np - (i + 1)) + 1 by omega]
              unfold hi
              rw [hl]
              dsimp only
              rw [show lsN (dg s i) u (dn s i) = some z from hfs]
            have ih := ihm _ (mwA M2 25 f) (by omega) hl1 (by omega) hF2
            refine ite_p (nI_ltI' (by omega) (by omega) q) ?_
            by_cases e : i = p
            · subst e
              rw [if_pos (Nat.le_refl _), hl1] at ih
              exact ite_p rfl ih
            · refine ite_n (nI_ne (by omega) (by omega) e) ?_
              rw [show (if i + 1 ≤ p then o2 (hi (dn s) (dg s) (np - p) p) else -1) = (if i ≤ p then o2 (hi (dn s) (dg s) (np - p) p) else -1) by
                by_cases e2 : i + 1 ≤ p
                · rw [if_pos e2, if_pos (by omega)]
                · rw [if_neg e2, if_neg (by omega)]]
              exact ih
          · rw [if_neg q] at hfs
            exact ite_n (nI_nltI (by omega) (by omega) (by omega)) (ihz (by omega) hfs)
      exact inner (dn s i) (Nat.le_refl _) rfl
  apply wp_X2_greatestOf_22_15
  rw [h 22 (by decide), hP]
  have := outer np 73000 M1 (Nat.le_refl _) (by rw [Nat.sub_self]; rfl) (Nat.le_refl _) h
  rw [if_neg (by omega)] at this
  exact this
def spV (s : Nat → Int32) (p : Nat) : Option Nat → Int32
  | none => -1
  | some j => nI (dg s p j)
theorem P_span {xs : gX} {d : Nat} {M : Mem} (hI : Inv M) (a b : Int32) : PB xs d mX8_span mX9_span [.int a, .int b] M := by
  obtain ⟨⟨v1, i1⟩, ⟨v2, i2⟩, ⟨v3, i3⟩, ⟨v4, i4⟩, i5⟩ := id hI.1
  have hT0 : M.1 65 1 = nI (N (M.1 65) 1) := v2.1
  have hT1 : M.1 20 1 = nI (N (M.1 65) 1) := i2.1.trans v2.1
  have hTn := v2.2.1
  have hP0 : M.1 65 2 = nI (N (M.1 65) 2) := v3.1
  have hP1 : M.1 22 2 = nI (N (M.1 65) 2) := i3.1.trans v3.1
  have hPn := v3.2.1
  have hS0 : M.1 65 0 = nI (ns (M.1 65)) := v1.1
  have hS1 : M.1 15 4 = nI (ns (M.1 65)) := i1.1.trans v1.1
  have hSn := v1.2.1
  rcases arg3 a (N (M.1 65) 2) (by omega) with h | ⟨h0, h1⟩ | ⟨ja, hja, rfl⟩
  · apply wp_X8_span_0
    refine (ite_p h ?_)
    apply wp_X9_span_64
    exact (ite_p h ⟨rfl, Inv_err hI 1⟩)
  · apply wp_X8_span_0
    refine (ite_n h0 (ite_n (cnt_o hP1 h1) ?_))
    apply wp_X9_span_64
    exact (ite_n h0 (ite_p (cnt_out hP0 (by omega) h0 h1) ⟨rfl, Inv_err hI 1⟩))
  obtain ⟨a1, a2, a3⟩ := cnt_in hP1 hP0 (by omega) hja
  rcases arg3 b 2 (by decide) with h | ⟨h0, h1⟩ | ⟨jb, hjb, rfl⟩
  · apply wp_X8_span_0
    refine (ite_n a1 (ite_p a2 (ite_p h ?_)))
    apply wp_X9_span_64
    exact (ite_n a1 (ite_n a3 (ite_p h ⟨rfl, Inv_err hI 1⟩)))
  · apply wp_X8_span_0
    refine (ite_n a1 (ite_p a2 (ite_n h0 (ite_n h1 ?_))))
    apply wp_X9_span_64
    exact (ite_n a1 (ite_n a3 (ite_n h0 (ite_p (ar_out (n := 1) rfl rfl (by decide) h1) ⟨rfl, Inv_err hI 1⟩))))
  obtain ⟨b1, b2, b3⟩ := ar_in (n := 1) (x := 2) (y := 1) rfl rfl hjb (by decide)
  obtain ⟨s, hs⟩ : ∃ s, s = M.1 65 := ⟨_, rfl⟩
  obtain ⟨np, hnp⟩ : ∃ np, np = N s 2 := ⟨_, rfl⟩
  have d8 := dn_8 v1 ja
  rw [← hs] at d8
  have hX : ∀ p i, i < dn s p → dg s p i < 73000 := fun p i hi => dg_lt p i hi
  have ref : ∀ (M0 : Mem) (Q : Int32 → Mem → Prop), IWM M0 → M0.1 65 = s → (∀ M2, F1 M0 M2 → if spV s ja (spL (inR (dn s) (dg s) np ja) jb (dn s ja)) = (-1) then Q (((-1000000000) : Int32) - 2) (mw M2 67 2 ((M2.1 67 2) + 1)) else Q (spV s ja (spL (inR (dn s) (dg s) np ja) jb (dn s ja))) M2) → MI xs (d + 7) mX9_span [.ref 64, .int (nI ja), .int (nI jb)] M0 Q := by
    intro M0 Q hI0 e0 hq
    rw [← hs, ← e0] at a3
    apply wp_X9_span_64
    refine (ite_n a1 (ite_n a3 (ite_n b1 (ite_n b3 ?_))))
    refine findRows_ok hI0 F1.rfl' (by rw [e0, ← hnp]; rw [← hs, ← hnp] at hja; omega) (fun M2 h2 hA hF hB => ?_)
    rw [e0, ← hnp] at hA hF hB
    have hjn : ja < np := by rw [hnp, hs]; exact hja
    have hn8 : np ≤ 8 := by rw [hnp, hs]; exact hPn
    obtain ⟨z1, z2⟩ := hA ja hjn
    have hV : VS s := by rw [hs]; exact v1
    have key : ∀ m i, i + m = dn s ja → GW xs (d + 7) mX9_span 32 [(0, .ref 64), (1, .int (nI ja)), (2, .int (nI jb)), (3, .int (spV s ja (spL (inR (dn s) (dg s) np ja) jb i))), (4, .int (nI i))] [] M2 (QI Q) := by
      intro m
      induction m with
      | zero =>
        intro i hi
        obtain rfl : i = dn s ja := by omega
        apply wp_X9_span_64_L32
        rw [nn_at (n := ja) (by omega), z1]
        exact ⟨vin_n (by omega) (by decide), ite_n (nI_nltI (by omega) (by omega) (by omega)) (hq M2 h2)⟩
      | succ m ih =>
        intro i hi
        have ih := ih (i + 1) (by omega)
        have f63 := fw_63 hV (p := ja) (by omega) (dg s ja i)
        have b63 := bw_63 hV (k := np - 1 - ja) (by omega) (ja + 1) (dg s ja i + 1)
        have g7 := hX ja i (by omega)
        apply wp_X9_span_64_L32
        rw [nn_at (n := ja) (by omega), z1, b8, nn_at (n := 8 * ja + i) (by omega), hF ja hjn i (by omega), hB ja (Nat.zero_le _) hjn i (by omega), z2 i (by omega), nI_1]
        refine ⟨vin_n (by omega) (by decide), ite_p (nI_ltI' (by omega) (by omega) (by omega)) ⟨vin_n (by omega) (by decide), ?_⟩⟩
        have pos : ∀ v, v < 2 ^ 63 → (0 < lg_cmp (lN v) 0 ↔ 0 < v) := fun v hv => by
          rw [lg_cmp_gt]
          exact pk_lLT (a := 0) (by decide) hv
        by_cases q1 : 0 < fw (dn s) (dg s) ja (dg s ja i)
        · refine ite_p ((pos _ f63).mpr q1) ?_
          by_cases q2 : 0 < bw (dn s) (dg s) (np - 1 - ja) (ja + 1) (dg s ja i + 1)
          · refine ite_p ((pos _ b63).mpr q2) ?_
            unfold spL at ih
            rw [if_pos ⟨q1, q2⟩] at ih
            cases hsp : spL (inR (dn s) (dg s) np ja) jb i with
            | none =>
              rw [hsp] at ih
              exact ite_p rfl ih
            | some j0 =>
              rw [hsp] at ih
              dsimp only at ih
              have hne : ¬ spV s ja (some j0) = -1 := by
                have l1 := spL_lt _ _ hsp
                have l3 := hX ja j0 (by omega)
                exact nI_neg_ne (by omega) (by decide)
              refine ite_n hne ?_
              by_cases q3 : jb = 1
              · rw [if_pos q3] at ih
                exact ite_p (by rw [q3]; rfl) ih
              · rw [if_neg q3] at ih
                exact ite_n (nI_ne (b := 1) (by omega) (by decide) q3) ih
          · unfold spL at ih
            rw [if_neg (fun q => q2 q.2)] at ih
            exact ite_n (fun z => q2 ((pos _ b63).mp z)) ih
        · unfold spL at ih
          rw [if_neg (fun q => q1 q.1)] at ih
          exact ite_n (fun z => q1 ((pos _ f63).mp z)) ih
    exact key (dn s ja) 0 (by omega)
  have hjn : ja < np := by rw [hnp, hs]; exact hja
  apply wp_X8_span_0
  refine (ite_n a1 (ite_p a2 (ite_n b1 (ite_p b2 ?_))))
  refine leastOf_ok hI.1 F1.rfl' hja (fun M1 h1 => ?_)
  rw [← hs, ← hnp]
  unfold lsA
  cases hlo : lo (dn s) (dg s) np with
  | none =>
    dsimp only
    refine ite_p (by decide) (ref _ _ (F1_6 hI.1 h1 2 _) (by rw [F1_65_6 h1, ← hs]) (fun M2 h2 => ?_))
    rw [span_no (dg_srt s) hX hjn hlo]
    exact ite_p rfl ⟨rfl, Inv_err3 hI 2 h1 h2⟩
  | some hh =>
    obtain ⟨j, hj, hl1, hsp⟩ := span_lo (dg_srt s) hX hjn hlo
    obtain ⟨⟨u0, hu0⟩, j1, hj1, hl2, hsp1⟩ := span_hi (dg_srt s) hX hjn hlo
    have g7 := hX ja j hj
    have g71 := hX ja j1 hj1
    dsimp only
    rw [hl1, show lv1 (some (dg s ja j + 1)) = nI (dg s ja j) from nI_pred _]
    refine ite_n (nI_lt0 (by omega)) ?_
    rcases (show jb = 0 ∨ jb = 1 by omega) with rfl | rfl
    · refine ite_p rfl (ref _ _ (IW_FR (IWM_2 hI.1 M1.2) (F1fr h1)) (by rw [(F1s65 h1), ← hs]) (fun M2 h2 => ?_))
      rw [hsp]
      exact ite_n (nI_neg_ne (by omega) (by decide)) ⟨rfl, Inv_scr (Inv_scr hI h1) h2⟩
    · refine ite_n (by decide) (greatestOf_ok hI.1 h1 hja (fun M3 h3 => ?_))
      rw [← hs, ← hnp]
      unfold gsA
      rw [hu0]
      dsimp only
      rw [hl2]
      refine ref _ _ (IW_FR (IWM_2 hI.1 M3.2) (F1fr h3)) (by rw [(F1s65 h3), ← hs]) (fun M2 h2 => ?_)
      rw [hsp1]
      exact ite_n (nI_neg_ne (by omega) (by decide)) ⟨rfl, Inv_scr (Inv_scr hI h3) h2⟩
