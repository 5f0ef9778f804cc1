/-! ===== voice ===== -/
def vE (t K m v : Nat) (x : Int32) : vR := if v = 0 then dE t K x [] else if v = 1 then aE t K m K x [] else if v = 2 then uE t K m K x [] else pE t K m K x []
def vP (t m v : Nat) : Nat := if v < 3 then 0 else ptd t m
theorem vE_len (t K m v : Nat) (x : Int32) : (vE t K m v x).2.length ≤ 7 := by
  have h0 := dE_len t K x []
  have h1 := aE_len t K m K x []
  have h2 := uE_len t K m K x []
  have h3 := pE_len t K m K x []
  rw [show ([] : List Nat).length = 0 from rfl] at h0 h1 h2 h3
  unfold vE
  split
  · omega
  · split
    · omega
    · split <;> omega
theorem Inv_tr {M M2 : Mem} (hI : Inv M) (ho : ∀ k, k ∉ [4, 63, 64, 77, 6, 67] → M2.1 k = M.1 k) (hE : ∀ k, k < 7 → M2.1 6 k = M2.1 67 k) (h642 : M2.1 64 2 = M.1 64 2) (hT : TRC M2) : Inv M2 := by
  obtain ⟨i1, i2, i3, i4, i5⟩ := hI
  refine ⟨?_, IMG_frame (fun k hk => ho k (by intro e; revert e hk; unfold wc; simp only [List.mem_cons, List.not_mem_nil, or_false]; omega)) (by rw [ho 0 (by decide)]) h642 (ho 66 (by decide)) i2, hE, hT, SHE_frame (fun k hk => ho k (by intro e; revert e hk; simp only [List.mem_cons, List.not_mem_nil, or_false]; omega)) i5⟩
  rw [ho 65 (by decide)]
  exact IW_frame (fun k hk => ho k (by intro e; revert e hk; unfold wc; simp only [List.mem_cons, List.not_mem_nil, or_false]; omega)) (fun _ _ => rfl) i1
theorem P_voice {xs : gX} {d : Nat} {M : Mem} (hI : Inv M) (a b c : Int32) : PB xs (d + 9) mX8_voice mX9_voice [.int a, .int b, .int c] M := by
  obtain ⟨⟨v1, i1⟩, ⟨v2, i2⟩, ⟨v3, i3⟩, ⟨v4, i4⟩, i5⟩ := id hI.1
  have hT0 : M.1 65 1 = nI (N (M.1 65) 1) := v2.1
  have hT1 : M.1 20 1 = nI (N (M.1 65) 1) := i2.1.trans v2.1
  have hTn := v2.2.1
  have hP0 : M.1 65 2 = nI (N (M.1 65) 2) := v3.1
  have hP1 : M.1 22 2 = nI (N (M.1 65) 2) := i3.1.trans v3.1
  have hPn := v3.2.1
  have hS0 : M.1 65 0 = nI (ns (M.1 65)) := v1.1
  have hS1 : M.1 15 4 = nI (ns (M.1 65)) := i1.1.trans v1.1
  have hSn := v1.2.1
  rcases arg3 a (N (M.1 65) 1) (by omega) with h | ⟨h0, h1⟩ | ⟨ja, hja, rfl⟩
  · apply wp_X8_voice_0
    refine (ite_p h ?_)
    apply wp_X9_voice_64
    exact (ite_p h ⟨rfl, Inv_err hI 1⟩)
  · apply wp_X8_voice_0
    refine (ite_n h0 (ite_n (cnt_o hT1 h1) ?_))
    apply wp_X9_voice_64
    exact (ite_n h0 (ite_p (cnt_out hT0 (by omega) h0 h1) ⟨rfl, Inv_err hI 1⟩))
  obtain ⟨a1, a2, a3⟩ := cnt_in hT1 hT0 (by omega) hja
  rcases arg3 b 4 (by decide) with h | ⟨h0, h1⟩ | ⟨jb, hjb, rfl⟩
  · apply wp_X8_voice_0
    refine (ite_n a1 (ite_p a2 (ite_p h ?_)))
    apply wp_X9_voice_64
    exact (ite_n a1 (ite_n a3 (ite_p h ⟨rfl, Inv_err hI 1⟩)))
  · apply wp_X8_voice_0
    refine (ite_n a1 (ite_p a2 (ite_n h0 (ite_n h1 ?_))))
    apply wp_X9_voice_64
    exact (ite_n a1 (ite_n a3 (ite_n h0 (ite_p (ar_out (n := 3) rfl rfl (by decide) h1) ⟨rfl, Inv_err hI 1⟩))))
  obtain ⟨b1, b2, b3⟩ := ar_in (n := 3) (x := 4) (y := 3) rfl rfl hjb (by decide)
  obtain ⟨g0, g1, g2, g3, g4, g5⟩ := txI hI.1 hja
  obtain ⟨K, hK⟩ : ∃ K, K = tx (M.1 65) 0 ja := ⟨_, rfl⟩
  obtain ⟨m, hm⟩ : ∃ m, m = tx (M.1 65) 1 ja := ⟨_, rfl⟩
  have w0 : M.1 65 (28 + 4 * ja + 0) = nI K := by rw [g0 0 (by omega), ← hK]
  have w1 : M.1 65 (28 + 4 * ja + 1) = nI m := by rw [g0 1 (by omega), ← hm]
  rw [← hK] at g1
  rw [← hm] at g2
  have hlen := vE_len ja K m jb c
  have ref : ∀ (M0 : Mem) (Q : Int32 → Mem → Prop), M0.1 65 = M.1 65 → (∀ M2, RS M0 ja (vP ja m jb) (vE ja K m jb c).2 M2 → if nI (vP ja m jb) = 0 then Q (vE ja K m jb c).1 M2 else Q (((-1000000000) : Int32) - 6) (mw M2 67 6 ((M2.1 67 6) + 1))) → MI xs (d + 9 + 7) mX9_voice [.ref 64, .int (nI ja), .int (nI jb), .int c] M0 Q := by
    intro M0 Q e0 hq
    rw [← e0] at a3 w0 w1
    have hR : RS M0 ja 0 [] (mw (mw (mw M0 64 18 0) 64 19 (nI ja)) 64 20 0) := by
      have e4 : (mw (mw (mw M0 64 18 0) 64 19 (nI ja)) 64 20 0).1 64 = upd (upd (upd (M0.1 64) 18 0) 19 (nI ja)) 20 0 := by rw [mw_at, mw_at, mw_at]
      unfold RS
      rw [e4]
      refine ⟨?_, fun i hi => absurd hi (Nat.not_lt_zero i), ?_, ?_, ?_, fun k h1 h2 => by rw [mw_ne _ _ _ h1, mw_ne _ _ _ h1, mw_ne _ _ _ h1]⟩
      · rw [upd_ne _ _ (by decide), upd_ne _ _ (by decide), upd_at]; rfl
      · rw [upd_ne _ _ (by decide), upd_at]
      · rw [upd_at]; rfl
      · rw [upd_ne _ _ (by decide), upd_ne _ _ (by decide), upd_ne _ _ (by decide)]
    apply wp_X9_voice_64
    refine (ite_n a1 (ite_n a3 (ite_n b1 (ite_n b3 ?_))))
    rw [show (28 + (4 * nI ja)) + 0 = nI (28 + 4 * ja + 0) from zT ja 0, nn_at (n := 28 + 4 * ja + 0) (by omega), w0]
    refine ⟨vin_n (by omega) (by decide), ?_⟩
    have l0 : ([] : List Nat).length = 0 := rfl
    rcases (show jb = 0 ∨ jb = 1 ∨ jb = 2 ∨ jb = 3 by omega) with rfl | rfl | rfl | rfl
    · refine ite_p rfl (rD hR g1 (by omega) (fun M2 h2 => ?_))
      rw [h2.2.2.2.1]
      exact hq M2 h2
    · refine ite_n (by decide) (ite_p rfl (rA hR (by omega) w0 w1 g1 g1 (by omega) (fun M2 h2 => ?_)))
      rw [h2.2.2.2.1]
      exact hq M2 h2
    · refine ite_n (by decide) (ite_n (by decide) (ite_p rfl (rU hR (by omega) w0 w1 g1 g1 (by omega) (fun M2 h2 => ?_))))
      rw [h2.2.2.2.1]
      exact hq M2 h2
    · refine ite_n (by decide) (ite_n (by decide) (ite_n (by decide) (rP hR (by omega) w0 w1 g1 g2 g1 (by omega) (fun M2 h2 => ?_))))
      rw [h2.2.2.2.1]
      exact hq M2 h2
  have fin : ∀ M1, CS M ja K m (vP ja m jb) (vE ja K m jb c).2 M1 → if (M1.1 4 2) = 0 then MI xs (d + 9 + 7) mX9_voice [.ref 64, .int (nI ja), .int (nI jb), .int c] M1 (fun r2 M2 => (vE ja K m jb c).1 = r2 ∧ Inv M2) else MI xs (d + 9 + 7) mX9_voice [.ref 64, .int (nI ja), .int (nI jb), .int c] (mw M1 6 6 ((M1.1 6 6) + 1)) (fun r2 M2 => ((-1000000000) : Int32) - 6 = r2 ∧ Inv M2) := by
    intro M1 h1
    obtain ⟨x1, x2, x3, x4, x5, x6, x7⟩ := h1
    rw [x3]
    have trc : ∀ M0 M2, RS M0 ja (vP ja m jb) (vE ja K m jb c).2 M2 → M0.1 4 = M1.1 4 → M0.1 63 = M1.1 63 → TRC M2 := by
      intro M0 M2 h2 e4 e63
      obtain ⟨y1, y2, y3, y4, y5, y6⟩ := h2
      have en : N (M2.1 64) 18 = (vE ja K m jb c).2.length := by unfold N; rw [y1, nn_at (by omega)]
      refine ⟨by rw [y6 4 (by decide) (by decide), e4, x1, y1], by rw [y1]; exact vin_n (by omega) (by decide), fun k hk => ?_⟩
      rw [en] at hk
      rw [y6 63 (by decide) (by decide), e63, x2 k hk, y2 k hk]
    by_cases q : nI (vP ja m jb) = 0
    · refine ite_p q (ref M1 _ (x7 65 (by decide) (by decide)) (fun M2 h2 => ite_p q ⟨rfl, ?_⟩))
      have h2' := h2
      obtain ⟨y1, y2, y3, y4, y5, y6⟩ := h2
      refine Inv_tr hI (fun k hk => ?_) (fun k hk => ?_) (by rw [y5, x7 64 (by decide) (by decide)]) (trc M1 M2 h2' rfl rfl)
      · simp only [List.mem_cons, List.not_mem_nil, or_false] at hk
        rw [y6 k (by omega) (by omega), x7 k (by omega) (by omega)]
      · rw [y6 6 (by decide) (by decide), y6 67 (by decide) (by decide), x7 6 (by decide) (by decide), x7 67 (by decide) (by decide)]
        exact hI.2.2.1 k hk
    · refine ite_n q (ref _ _ (by rw [mw_ne _ _ _ (by decide)]; exact x7 65 (by decide) (by decide)) (fun M2 h2 => ite_n q ⟨rfl, ?_⟩))
      have h2' := h2
      obtain ⟨y1, y2, y3, y4, y5, y6⟩ := h2
      have tt := trc _ M2 h2' (by rw [mw_ne _ _ _ (by decide)]) (by rw [mw_ne _ _ _ (by decide)])
      refine Inv_tr hI (fun k hk => ?_) (fun k hk => ?_) ?_ ?_
      · simp only [List.mem_cons, List.not_mem_nil, or_false] at hk
        rw [mw_ne _ _ _ (by omega), y6 k (by omega) (by omega), mw_ne _ _ _ (by omega), x7 k (by omega) (by omega)]
      · rw [mw_ne _ _ _ (by decide : (6 : Nat) ≠ 67), mw_at, y6 6 (by decide) (by decide), y6 67 (by decide) (by decide), mw_at, mw_ne _ _ _ (by decide : (67 : Nat) ≠ 6), x7 6 (by decide) (by decide), x7 67 (by decide) (by decide)]
        by_cases e : k = 6
        · subst e; rw [upd_at, upd_at, hI.2.2.1 6 hk]
        · rw [upd_ne _ _ e, upd_ne _ _ e]; exact hI.2.2.1 k hk
      · rw [mw_ne _ _ _ (by decide), y5, mw_ne _ _ _ (by decide), x7 64 (by decide) (by decide)]
      · exact TRC_frame (by rw [mw_ne _ _ _ (by decide)]) (by rw [mw_ne _ _ _ (by decide)]) (by rw [mw_ne _ _ _ (by decide)]) (by rw [mw_ne _ _ _ (by decide)]) tt
  apply wp_X8_voice_0
  refine (ite_n a1 (ite_p a2 (ite_n b1 (ite_p b2 ?_))))
  apply wp_X0_sing_4_20
  obtain ⟨Ms, hMs⟩ : ∃ Ms, Ms = mw (mw (mw M 4 1 0) 4 2 0) 4 3 (nI ja) := ⟨_, rfl⟩
  rw [← hMs]
  have o4 : ∀ k, k ≠ 4 → Ms.1 k = M.1 k := fun k hk => by rw [hMs, mw_ne _ _ _ hk, mw_ne _ _ _ hk, mw_ne _ _ _ hk]
  have rol : ∀ M', (∀ k, k ≠ 4 → M'.1 k = M.1 k) → ROL M' 15 (M.1 65) := fun M' h => ROL_congr v2 rfl (fun _ _ _ => rfl) (h _ (by decide)) (h _ (by decide)) i2
  refine fact_ok (w := 0) v2 (rol _ o4) hja (by omega) ?_
  rw [← hK]
  refine fact_ok (w := 1) v2 (rol _ (fun k hk => by rw [mw_ne _ _ _ hk, o4 k hk])) hja (by omega) ?_
  rw [← hm, mw_at, upd_at]
  have hC : CS M ja K m 0 [] (mw (mw Ms 4 4 (nI K)) 4 5 (nI m)) := by
    have e4 : (mw (mw Ms 4 4 (nI K)) 4 5 (nI m)).1 4 = upd (upd (upd (upd (upd (M.1 4) 1 0) 2 0) 3 (nI ja)) 4 (nI K)) 5 (nI m) := by rw [mw_at, mw_at, hMs, mw_at, mw_at, mw_at]
    unfold CS
    rw [e4]
    refine ⟨?_, fun i hi => absurd hi (Nat.not_lt_zero i), ?_, ?_, ?_, ?_, fun k h1 h2 => by rw [mw_ne _ _ _ h1, mw_ne _ _ _ h1, o4 k h1]⟩
    · rw [upd_ne _ _ (by decide), upd_ne _ _ (by decide), upd_ne _ _ (by decide), upd_ne _ _ (by decide), upd_at]; rfl
    · rw [upd_ne _ _ (by decide), upd_ne _ _ (by decide), upd_ne _ _ (by decide), upd_at]; rfl
    · rw [upd_ne _ _ (by decide), upd_ne _ _ (by decide), upd_at]
    · rw [upd_ne _ _ (by decide), upd_at]
    · rw [upd_at]
  have l0 : ([] : List Nat).length = 0 := rfl
  rcases (show jb = 0 ∨ jb = 1 ∨ jb = 2 ∨ jb = 3 by omega) with rfl | rfl | rfl | rfl
  · exact dC (o := 0) hC g1 (by omega) (by omega) (fun M1 h1 => fin M1 h1)
  · exact aC (o := 0) hC g1 g1 (by omega) (by omega) (fun M1 h1 => fin M1 h1)
  · exact uC (o := 0) hC g1 g1 (by omega) (by omega) (fun M1 h1 => fin M1 h1)
  · exact pC (o := 0) hC g1 (by omega) g2 g1 (by omega) (by omega) (fun M1 h1 => fin M1 h1)
