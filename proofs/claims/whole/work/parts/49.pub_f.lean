/-! ===== ages: the public methods ===== -/
def IWM (M : Mem) : Prop := IW M 1 15 (M.1 65)
theorem IWM_of {M M1 : Mem} (hI : IWM M) (h : ∀ k, k ∉ 6 :: 67 :: scr → M1.1 k = M.1 k) : IWM M1 := by
  unfold IWM
  rw [h 65 (by decide)]
  refine IW_frame (fun k hk => h k (fun e => ?_)) (fun _ _ => rfl) hI
  revert e hk; unfold wc scr; simp only [List.mem_cons, List.not_mem_nil, or_false]; omega
theorem IW_FR {M M1 : Mem} (hI : IWM M) (h : FR scr M M1) : IWM M1 := IWM_of hI (fun k hk => h.2 k (fun q => hk (List.mem_cons_of_mem _ (List.mem_cons_of_mem _ q))))
theorem Inv_FR {M M1 : Mem} (hI : Inv M) (h : FR scr M M1) : Inv M1 := Inv_scr hI h.2
theorem s65 {M M1 : Mem} (h : FR scr M M1) : M1.1 65 = M.1 65 := h.2 65 (by decide)
def RC (M M1 : Mem) : Prop := FR scr M M1 ∧ NMS M1 (M.1 65)
theorem namesR {xs : gX} {d : Nat} {M M1 : Mem} {Q : Mem → Prop} (hI : IWM M) (h : FR scr M M1) (hQ : ∀ M2, RC M M2 → Q M2) : MV xs (d + 2) mX9_findNames [.ref 64] M1 Q := by
  have e := s65 h
  have hv := (IW_FR hI h).1.1
  refine findNames_ok hv (fun f hf => hQ _ ⟨h.mwA (by decide), fun c y hc hy => ?_⟩)
  rw [mwA_at, hf c y hc hy, e]
theorem RC_FR {l : List Nat} {M M1 M2 : Mem} (h : RC M M1) (h2 : FR l M1 M2) (hl : ∀ k, k ∈ l → k ∈ scr) (h68 : 68 ∉ l) : RC M M2 := by
  refine ⟨h.1.trans (h2.mono hl), fun c y hc hy => ?_⟩
  rw [h2.2 68 h68]
  exact h.2 c y hc hy
theorem factC {xs : gX} {d : Nat} {M M1 : Mem} {Q : Int32 → Mem → Prop} {t w : Nat} (hI : IWM M) (h : FR scr M M1) (ht : t < N (M.1 65) 1) (hw : w < 4) (hQ : Q (nI (tx (M.1 65) w t)) M1) : MI xs (d + 1) mX3_fact [.ref 20, .int (nI t), .int (nI w)] M1 Q := by
  obtain ⟨-, ⟨v2, i2⟩, -⟩ := (IW_FR hI h)
  rw [s65 h] at v2 i2
  exact fact_ok v2 i2 ht hw hQ
theorem nameC {xs : gX} {d : Nat} {M M1 : Mem} {Q : Int32 → Mem → Prop} {c y : Nat} (hI : IWM M) (h : FR scr M M1) (hc : c < 1000) (hy : y < 300) (hQ : Q (nI (nm (M.1 65) c y)) M1) : MI xs d mX6_nameOf [.ref 15, .int (nI c), .int (nI y)] M1 Q := by
  obtain ⟨⟨v1, i1⟩, -⟩ := (IW_FR hI h)
  rw [s65 h] at v1 i1
  exact nameOf_ok v1 i1 hc hy hQ
theorem dateC {xs : gX} {d : Nat} {M M1 : Mem} {Q : Int32 → Mem → Prop} {c y : Nat} (hI : IWM M) (h : FR scr M M1) (hc : c < 1000) (hy : y < 73000) (hQ : Q (nI (nm (M.1 65) c (y / 365) * 1000 + y % 365)) M1) : MI xs (d + 1) mX6_dateOf [.ref 15, .int (nI c), .int (nI y)] M1 Q := by
  obtain ⟨⟨v1, i1⟩, -⟩ := (IW_FR hI h)
  rw [s65 h] at v1 i1
  exact dateOf_ok v1 i1 hc hy hQ
theorem ageC {xs : gX} {d : Nat} {M M1 : Mem} {Q : Int32 → Mem → Prop} {t c y : Nat} (hI : IWM M) (h : FR scr M M1) (ht : t < N (M.1 65) 1) (hc : c < 4) (hy : y < 73000) (hQ : ∀ M2, FR scr M M2 → Q (ageF (M.1 65) t c y) M2) : MI xs (d + 3) mX7_ageOf [.ref 1, .int (nI t), .int (nI c), .int (nI y)] M1 Q := by
  obtain ⟨⟨v1, i1⟩, ⟨v2, i2⟩, -, -, i5, -⟩ := (IW_FR hI h)
  rw [s65 h] at v1 i1 v2 i2 i5
  exact ageC_ok v1 i1 v2 i2 i5 ht hc hy (fun M2 h2 => hQ M2 (h.trans (h2.mono (by decide))))
theorem ageR {xs : gX} {d : Nat} {M M1 : Mem} {Q : Int32 → Mem → Prop} {t c y : Nat} (hI : IWM M) (h : RC M M1) (ht : t < N (M.1 65) 1) (hc : c < 4) (hy : y < 73000) (hQ : ∀ M2, RC M M2 → Q (ageF (M.1 65) t c y) M2) : MI xs (d + 3) mX9_ageOf [.ref 64, .int (nI t), .int (nI c), .int (nI y)] M1 Q := by
  obtain ⟨⟨v1, i1⟩, ⟨v2, i2⟩, -, -, i5, -⟩ := (IW_FR hI h.1)
  rw [s65 h.1] at v1 i1 v2 i2 i5
  exact ageR_ok v1 (s65 h.1) h.2 v2 i5 ht hc hy (fun M2 h2 => hQ M2 (RC_FR h h2 (by decide) (by decide)))
theorem nowI {M : Mem} (hI : IWM M) : M.1 65 3 = nI (N (M.1 65) 3) ∧ N (M.1 65) 3 < 73000 ∧ M.1 1 9 = nI (N (M.1 65) 3) := by
  obtain ⟨-, -, -, ⟨v4, i4⟩, -⟩ := hI
  have := vin_get v4.1 (by decide)
  exact ⟨this.1, this.2, i4.1.trans this.1⟩
theorem txI {M : Mem} (hI : IWM M) {t : Nat} (ht : t < N (M.1 65) 1) : (∀ w, w < 4 → M.1 65 (28 + 4 * t + w) = nI (tx (M.1 65) w t)) ∧ tx (M.1 65) 0 t < 7 ∧ tx (M.1 65) 1 t < 10 ∧ tx (M.1 65) 2 t < 4 ∧ tx (M.1 65) 3 t < 73000 ∧ t < 10 := by
  obtain ⟨-, ⟨v2, i2⟩, -⟩ := hI
  have h10 := v2.2.1
  obtain ⟨g0, g1, g2, g3, g4⟩ := v2.2.2 t ht
  exact ⟨g0, g1, g2, g3, g4, by omega⟩
/-- a thing's cell of the row, as the reference finds it -/
theorem zT (t w : Nat) : (28 + (4 * nI t)) + nI w = nI (28 + 4 * t + w) := by simp only [i_lit, nI_mul, nI_add]
theorem P_age {xs : gX} {d : Nat} {M : Mem} (hI : Inv M) (a b c : Int32) : PB xs d mX8_age mX9_age [.int a, .int b, .int c] M := by
  obtain ⟨⟨v1, i1⟩, ⟨v2, i2⟩, ⟨v3, i3⟩, ⟨v4, i4⟩, i5⟩ := id hI.1
  have hT0 : M.1 65 1 = nI (N (M.1 65) 1) := v2.1
  have hT1 : M.1 20 1 = nI (N (M.1 65) 1) := i2.1.trans v2.1
  have hTn := v2.2.1
  have hP0 : M.1 65 2 = nI (N (M.1 65) 2) := v3.1
  have hP1 : M.1 22 2 = nI (N (M.1 65) 2) := i3.1.trans v3.1
  have hPn := v3.2.1
  have hS0 : M.1 65 0 = nI (ns (M.1 65)) := v1.1
  have hS1 : M.1 15 4 = nI (ns (M.1 65)) := i1.1.trans v1.1
  have hSn := v1.2.1
  rcases arg3 a (N (M.1 65) 1) (by omega) with h | ⟨h0, h1⟩ | ⟨ja, hja, rfl⟩
  · apply wp_X8_age_0
    refine (ite_p h ?_)
    apply wp_X9_age_64
    exact (ite_p h ⟨rfl, Inv_err hI 1⟩)
  · apply wp_X8_age_0
    refine (ite_n h0 (ite_n (cnt_o hT1 h1) ?_))
    apply wp_X9_age_64
    exact (ite_n h0 (ite_p (cnt_out hT0 (by omega) h0 h1) ⟨rfl, Inv_err hI 1⟩))
  obtain ⟨a1, a2, a3⟩ := cnt_in hT1 hT0 (by omega) hja
  rcases arg3 b 4 (by decide) with h | ⟨h0, h1⟩ | ⟨jb, hjb, rfl⟩
  · apply wp_X8_age_0
    refine (ite_n a1 (ite_p a2 (ite_p h ?_)))
    apply wp_X9_age_64
    exact (ite_n a1 (ite_n a3 (ite_p h ⟨rfl, Inv_err hI 1⟩)))
  · apply wp_X8_age_0
    refine (ite_n a1 (ite_p a2 (ite_n h0 (ite_n h1 ?_))))
    apply wp_X9_age_64
    exact (ite_n a1 (ite_n a3 (ite_n h0 (ite_p (ar_out (n := 3) rfl rfl (by decide) h1) ⟨rfl, Inv_err hI 1⟩))))
  obtain ⟨b1, b2, b3⟩ := ar_in (n := 3) (x := 4) (y := 3) rfl rfl hjb (by decide)
  rcases arg3 c 73000 (by decide) with h | ⟨h0, h1⟩ | ⟨jc, hjc, rfl⟩
  · apply wp_X8_age_0
    refine (ite_n a1 (ite_p a2 (ite_n b1 (ite_p b2 (ite_p h ?_)))))
    apply wp_X9_age_64
    exact (ite_n a1 (ite_n a3 (ite_n b1 (ite_n b3 (ite_p h ⟨rfl, Inv_err hI 1⟩)))))
  · apply wp_X8_age_0
    refine (ite_n a1 (ite_p a2 (ite_n b1 (ite_p b2 (ite_n h0 (ite_n h1 ?_))))))
    apply wp_X9_age_64
    exact (ite_n a1 (ite_n a3 (ite_n b1 (ite_n b3 (ite_n h0 (ite_p (ar_out (n := 72999) rfl rfl (by decide) h1) ⟨rfl, Inv_err hI 1⟩))))))
  obtain ⟨c1, c2, c3⟩ := ar_in (n := 72999) (x := 73000) (y := 72999) rfl rfl hjc (by decide)
  apply wp_X8_age_0
  refine (ite_n a1 (ite_p a2 (ite_n b1 (ite_p b2 (ite_n c1 (ite_p c2 ?_))))))
  refine ageC hI.1 FR.rfl' hja hjb hjc (fun M1 h1 => ?_)
  rw [← s65 h1] at a3
  apply wp_X9_age_64
  refine (ite_n a1 (ite_n a3 (ite_n b1 (ite_n b3 (ite_n c1 (ite_n c3 ?_))))))
  exact namesR hI.1 h1 (fun M2 h2 => ageR hI.1 h2 hja hjb hjc (fun M3 h3 => ⟨rfl, Inv_FR hI h3.1⟩))
/-- the age now, and the worth -/
def agn (s : Nat → Int32) (t : Nat) : Int32 := ageF s t (tx s 2 t) (N s 3)
def wrt (s : Nat → Int32) (t : Nat) : Int32 := if s 209 = 0 then hld (10 * agn s t + nI (tx s 1 t)) (-9999) 9999 else hld (evT s 1 (agn s t) (nI (tx s 0 t)) (nI (tx s 1 t))) (-9999) 9999
theorem worthC {xs : gX} {d : Nat} {M M1 : Mem} {Q : Int32 → Mem → Prop} {t : Nat} (hI : IWM M) (h : FR scr M M1) (ht : t < N (M.1 65) 1) (hQ : ∀ M2, FR scr M M2 → Q (wrt (M.1 65) t) M2) : MI xs (d + 5) mX7_worthNow [.ref 1, .int (nI t)] M1 Q := by
  obtain ⟨g0, g1, g2, g3, g4, g5⟩ := txI hI ht
  obtain ⟨w1, w2, w3⟩ := nowI hI
  apply wp_X7_worthNow_1
  refine factC (w := 2) hI h ht (by omega) ?_
  rw [h.2 1 (by decide), w3]
  refine ageC hI h ht g3 w2 (fun M2 h2 => factC (w := 1) hI h2 ht (by omega) ?_)
  have i5 := (IW_FR hI h2).2.2.2.2.2
  rw [s65 h2] at i5
  unfold wrt at hQ
  rcases id i5.2 with ⟨e1, e2⟩ | ⟨n, n1', n60, hn, hsd, -⟩
  · rw [if_pos e1] at hQ
    refine ite_p e2 (hold_ok (by decide) ?_)
    rw [Int32.mul_comm]
    exact hQ M2 h2
  · have hst : ¬ (M.1 65) (84 + 125 * 1) = 0 := by rw [hn]; exact nI_ne (b := 0) (by omega) (by omega) (by omega)
    rw [if_neg hst] at hQ
    refine ite_n (by rw [show M2.1 32 3 = 1 from hsd]; decide) (factC (w := 0) hI h2 ht (by omega) (value32_ok i5 hst (fun M3 h3 => hold_ok (by decide) (hQ M3 (h2.trans (h3.mono (by decide)))))))
theorem worthR {xs : gX} {d : Nat} {M M1 : Mem} {Q : Int32 → Mem → Prop} {t : Nat} (hI : IWM M) (h : RC M M1) (ht : t < N (M.1 65) 1) (hQ : ∀ M2, RC M M2 → Q (wrt (M.1 65) t) M2) : MI xs (d + 5) mX9_worth [.ref 64, .int (nI t)] M1 Q := by
  obtain ⟨g0, g1, g2, g3, g4, g5⟩ := txI hI ht
  obtain ⟨w1, w2, w3⟩ := nowI hI
  apply wp_X9_worth_64
  rw [show (28 + (4 * nI t)) + 2 = nI (28 + 4 * t + 2) from zT t 2, show (28 + (4 * nI t)) + 1 = nI (28 + 4 * t + 1) from zT t 1, show (28 + (4 * nI t)) + 0 = nI (28 + 4 * t + 0) from zT t 0, s65 h.1, w1, nn_at (n := 28 + 4 * t + 2) (by omega), nn_at (n := 28 + 4 * t + 1) (by omega), nn_at (n := 28 + 4 * t + 0) (by omega), g0 2 (by omega)]
  refine ⟨vin_n (by omega) (by decide), ageR hI h ht g3 w2 (fun M2 h2 => ?_)⟩
  rw [s65 h2.1, g0 1 (by omega), g0 0 (by omega)]
  have i5 := (IW_FR hI h2.1).2.2.2.2.2
  rw [s65 h2.1] at i5
  unfold wrt at hQ
  rcases id i5.2 with ⟨e1, e2⟩ | ⟨n, n1', n60, hn, hsd, -⟩
  · rw [if_pos e1] at hQ
    exact ite_n (by rw [show M.1 65 209 = 0 from e1]; decide) ⟨vin_n (by omega) (by decide), held_ok (hQ M2 h2)⟩
  · have hst : ¬ (M.1 65) (84 + 125 * 1) = 0 := by rw [hn]; exact nI_ne (b := 0) (by omega) (by omega) (by omega)
    rw [if_neg hst] at hQ
    refine ite_p (by rw [show M.1 65 209 = nI n from hn]; exact nI_ltI' (a := 0) (by omega) (by omega) (by omega)) ⟨vin_n (by omega) (by decide), vin_n (by omega) (by decide), ?_⟩
    refine worked_ok (u := 1) (by omega) (s := M.1 65) (by rw [mw_ne _ _ _ (by decide), mw_ne _ _ _ (by decide), mw_ne _ _ _ (by decide), s65 h2.1]) i5 hst (x1 := agn (M.1 65) t) (x2 := nI (tx (M.1 65) 0 t)) (x3 := nI (tx (M.1 65) 1 t)) ?_ ?_ ?_ (fun M3 h3 => held_ok (hQ M3 (RC_FR (l := [70, 71]) h2 (FR.trans (((FR.rfl'.mw (by decide)).mw (by decide)).mw (by decide)) (h3.mono (by decide))) (by decide) (by decide))))
    · show (mw (mw (mw M2 70 97 _) 70 107 _) 70 109 _).1 70 97 = _
      rw [mw_at, upd_ne _ _ (by decide), mw_at, upd_ne _ _ (by decide), mw_at, upd_at]
      rfl
    · show (mw (mw (mw M2 70 97 _) 70 107 _) 70 109 _).1 70 107 = _
      rw [mw_at, upd_ne _ _ (by decide), mw_at, upd_at]
    · show (mw (mw (mw M2 70 97 _) 70 107 _) 70 109 _).1 70 109 = _
      rw [mw_at, upd_at]
theorem P_thingIs {xs : gX} {d : Nat} {M : Mem} (hI : Inv M) (a b : Int32) : PB xs d mX8_thingIs mX9_thingIs [.int a, .int b] M := by
  obtain ⟨⟨v1, i1⟩, ⟨v2, i2⟩, ⟨v3, i3⟩, ⟨v4, i4⟩, i5⟩ := id hI.1
  have hT0 : M.1 65 1 = nI (N (M.1 65) 1) := v2.1
  have hT1 : M.1 20 1 = nI (N (M.1 65) 1) := i2.1.trans v2.1
  have hTn := v2.2.1
  have hP0 : M.1 65 2 = nI (N (M.1 65) 2) := v3.1
  have hP1 : M.1 22 2 = nI (N (M.1 65) 2) := i3.1.trans v3.1
  have hPn := v3.2.1
  have hS0 : M.1 65 0 = nI (ns (M.1 65)) := v1.1
  have hS1 : M.1 15 4 = nI (ns (M.1 65)) := i1.1.trans v1.1
  have hSn := v1.2.1
  rcases arg3 a (N (M.1 65) 1) (by omega) with h | ⟨h0, h1⟩ | ⟨ja, hja, rfl⟩
  · apply wp_X8_thingIs_0
    refine (ite_p h ?_)
    apply wp_X9_thingIs_64
    exact (ite_p h ⟨rfl, Inv_err hI 1⟩)
  · apply wp_X8_thingIs_0
    refine (ite_n h0 (ite_n (cnt_o hT1 h1) ?_))
    apply wp_X9_thingIs_64
    exact (ite_n h0 (ite_p (cnt_out hT0 (by omega) h0 h1) ⟨rfl, Inv_err hI 1⟩))
  obtain ⟨a1, a2, a3⟩ := cnt_in hT1 hT0 (by omega) hja
  rcases arg3 b 6 (by decide) with h | ⟨h0, h1⟩ | ⟨jb, hjb, rfl⟩
  · apply wp_X8_thingIs_0
    refine (ite_n a1 (ite_p a2 (ite_p h ?_)))
    apply wp_X9_thingIs_64
    exact (ite_n a1 (ite_n a3 (ite_p h ⟨rfl, Inv_err hI 1⟩)))
  · apply wp_X8_thingIs_0
    refine (ite_n a1 (ite_p a2 (ite_n h0 (ite_n h1 ?_))))
    apply wp_X9_thingIs_64
    exact (ite_n a1 (ite_n a3 (ite_n h0 (ite_p (ar_out (n := 5) rfl rfl (by decide) h1) ⟨rfl, Inv_err hI 1⟩))))
  obtain ⟨b1, b2, b3⟩ := ar_in (n := 5) (x := 6) (y := 5) rfl rfl hjb (by decide)
  obtain ⟨g0, g1, g2, g3, g4, g5⟩ := txI hI.1 hja
  obtain ⟨w1, w2, w3⟩ := nowI hI.1
  by_cases q4 : jb < 4
  · apply wp_X8_thingIs_0
    refine (ite_n a1 (ite_p a2 (ite_n b1 (ite_p b2 ?_))))
    refine ite_p (lit_lt (n := 4) rfl q4 (by decide)) (factC hI.1 FR.rfl' hja q4 ?_)
    apply wp_X9_thingIs_64
    refine (ite_n a1 (ite_n a3 (ite_n b1 (ite_n b3 ?_))))
    refine namesR hI.1 FR.rfl' (fun M2 h2 => ?_)
    rw [s65 h2.1, zT, nn_at (by omega), g0 jb q4]
    exact ite_n (nI_ne (b := 4) (by omega) (by omega) (by omega)) (ite_n (nI_ne (b := 5) (by omega) (by omega) (by omega)) ⟨vin_n (by omega) (by decide), rfl, Inv_FR hI h2.1⟩)
  · by_cases q5 : jb = 4
    · subst q5
      apply wp_X8_thingIs_0
      refine (ite_n a1 (ite_p a2 (ite_n b1 (ite_p b2 ?_))))
      refine ite_n (by decide) (ite_p rfl (factC (w := 2) hI.1 FR.rfl' hja (by omega) ?_))
      rw [w3]
      refine ageC hI.1 FR.rfl' hja g3 w2 (fun M1 h1 => ?_)
      rw [← s65 h1] at a3
      apply wp_X9_thingIs_64
      refine (ite_n a1 (ite_n a3 (ite_n b1 (ite_n b3 ?_))))
      refine namesR hI.1 h1 (fun M2 h2 => ite_p rfl ?_)
      rw [s65 h2.1, show (28 + (4 * nI ja)) + 2 = nI (28 + 4 * ja + 2) from zT ja 2, nn_at (by omega), g0 2 (by omega), w1]
      exact ⟨vin_n (by omega) (by decide), ageR hI.1 h2 hja g3 w2 (fun M3 h3 => ⟨rfl, Inv_FR hI h3.1⟩)⟩
    · obtain rfl : jb = 5 := by omega
      apply wp_X8_thingIs_0
      refine (ite_n a1 (ite_p a2 (ite_n b1 (ite_p b2 ?_))))
      refine ite_n (by decide) (ite_n (by decide) (worthC hI.1 FR.rfl' hja (fun M1 h1 => ?_)))
      rw [← s65 h1] at a3
      apply wp_X9_thingIs_64
      refine (ite_n a1 (ite_n a3 (ite_n b1 (ite_n b3 ?_))))
      exact namesR hI.1 h1 (fun M2 h2 => ite_n (by decide) (ite_p rfl (worthR hI.1 h2 hja (fun M3 h3 => ⟨rfl, Inv_FR hI h3.1⟩))))
/-- the first day so old -/
def o2 : Option Nat → Int32
  | none => -1
  | some j => nI j
def cmL (s : Nat → Int32) (t c : Nat) (yr : Int32) : Nat → Nat → Option Nat
  | 0, _ => none
  | m + 1, y => if ageF s t c (365 * y) < yr then (if ageF s t c (365 * y + tx s 3 t % 365) < yr then cmL s t c yr m (y + 1) else some (365 * y + tx s 3 t % 365)) else some (365 * y)
def cmO (s : Nat → Int32) (t c : Nat) (yr : Int32) : Option Nat := if ageF s t c (tx s 3 t) < yr then cmL s t c yr (199 - tx s 3 t / 365) (tx s 3 t / 365 + 1) else some (tx s 3 t)
theorem cmL_lt {s : Nat → Int32} {t c : Nat} {yr : Int32} : ∀ m y j, y + m ≤ 200 → cmL s t c yr m y = some j → j < 73000 := by
  intro m
  induction m with
  | zero => intro y j _ h; cases h
  | succ m ih =>
    intro y j hy h
    unfold cmL at h
    split at h
    · split at h
      · exact ih (y + 1) j (by omega) h
      · cases h; omega
    · cases h; omega
theorem cmO_lt {s : Nat → Int32} {t c : Nat} {yr : Int32} {j : Nat} (hb : tx s 3 t < 73000) (h : cmO s t c yr = some j) : j < 73000 := by
  unfold cmO at h
  split at h
  · exact cmL_lt _ _ j (by omega) h
  · cases h; exact hb
theorem dayOfAge_ok {xs : gX} {d : Nat} {M M1 : Mem} {Q : Int32 → Mem → Prop} {t c : Nat} {yr : Int32} (hI : IWM M) (h : FR scr M M1) (ht : t < N (M.1 65) 1) (hc : c < 4) (hQ : ∀ M2, FR scr M M2 → Q (o2 (cmO (M.1 65) t c yr)) M2) : MI xs (d + 4) mX7_dayOfAge [.ref 1, .int (nI t), .int (nI c), .int yr] M1 Q := by
  obtain ⟨g0, g1, g2, g3, g4, g5⟩ := txI hI ht
  have key : ∀ m y M1, y + m = 200 → (∀ M2, FR scr M M2 → Q (o2 (cmL (M.1 65) t c yr m y)) M2) → FR scr M M1 → GW xs (d + 4) mX7_dayOfAge 36 [(0, .ref 1), (1, .int (nI t)), (2, .int (nI c)), (3, .int yr), (4, .int (nI (tx (M.1 65) 3 t))), (5, .int (nI y))] [] M1 (QI Q) := by
    intro m
    induction m with
    | zero =>
      intro y M1 hy hQ h1
      apply wp_X7_dayOfAge_1_L36
      exact ite_n (nI_nltI (b := 200) (by omega) (by decide) (by omega)) (hQ M1 h1)
    | succ m ih =>
      intro y M1 hy hQ h1
      apply wp_X7_dayOfAge_1_L36
      rw [show (365 : Int32) = nI 365 from rfl, pk_rem (by omega) (by omega) (by omega), nI_mul, nI_add, Nat.mul_comm y 365, nI_1]
      refine ite_p (nI_ltI' (b := 200) (by omega) (by decide) (by omega)) (ageC hI h1 ht hc (by omega) (fun M2 h2 => ?_))
      unfold cmL at hQ
      by_cases q1 : ageF (M.1 65) t c (365 * y) < yr
      · rw [if_pos q1] at hQ
        refine ite_p q1 (ageC hI h2 ht hc (by omega) (fun M3 h3 => ?_))
        by_cases q2 : ageF (M.1 65) t c (365 * y + tx (M.1 65) 3 t % 365) < yr
        · rw [if_pos q2] at hQ
          exact ite_p q2 (ih (y + 1) M3 (by omega) hQ h3)
        · rw [if_neg q2] at hQ
          exact ite_n q2 (hQ M3 h3)
      · rw [if_neg q1] at hQ
        exact ite_n q1 (hQ M2 h2)
  apply wp_X7_dayOfAge_1
  refine factC (w := 3) hI h ht (by omega) (ageC hI h ht hc g4 (fun M2 h2 => ?_))
  rw [show (365 : Int32) = nI 365 from rfl, pk_div (by omega) (by omega) (by omega), nI_1]
  unfold cmO at hQ
  by_cases q1 : ageF (M.1 65) t c (tx (M.1 65) 3 t) < yr
  · rw [if_pos q1] at hQ
    exact ite_p q1 (key _ _ M2 (by omega) hQ h2)
  · rw [if_neg q1] at hQ
    exact ite_n q1 (hQ M2 h2)
theorem comesAt_ok {xs : gX} {d : Nat} {M M1 : Mem} {Q : Int32 → Mem → Prop} {t c : Nat} {yr : Int32} (hI : IWM M) (h : RC M M1) (ht : t < N (M.1 65) 1) (hc : c < 4) (hQ : ∀ M2, RC M M2 → Q (o2 (cmO (M.1 65) t c yr)) M2) : MI xs (d + 4) mX9_comesAt [.ref 64, .int (nI t), .int (nI c), .int yr] M1 Q := by
  obtain ⟨g0, g1, g2, g3, g4, g5⟩ := txI hI ht
  have key : ∀ m y M1, y + m = 200 → tx (M.1 65) 3 t ≤ 365 * y → (∀ M2, RC M M2 → Q (o2 (cmL (M.1 65) t c yr m y)) M2) → RC M M1 → GW xs (d + 4) mX9_comesAt 16 [(0, .ref 64), (1, .int (nI t)), (2, .int (nI c)), (3, .int yr), (4, .int (nI (tx (M.1 65) 3 t))), (5, .int (nI y))] [] M1 (QI Q) := by
    intro m
    induction m with
    | zero =>
      intro y M1 hy hle hQ h1
      apply wp_X9_comesAt_64_L16
      exact ite_n (nI_nltI (b := 200) (by omega) (by decide) (by omega)) (hQ M1 h1)
    | succ m ih =>
      intro y M1 hy hle hQ h1
      apply wp_X9_comesAt_64_L16
      rw [show (365 : Int32) = nI 365 from rfl, pk_rem (by omega) (by omega) (by omega), nI_mul, nI_add, nI_1]
      refine ite_p (nI_ltI' (b := 200) (by omega) (by decide) (by omega)) (ite_n (nI_nltI (by omega) (by omega) (by omega)) (ageR hI h1 ht hc (by omega) (fun M2 h2 => ?_)))
      unfold cmL at hQ
      by_cases q1 : ageF (M.1 65) t c (365 * y) < yr
      · rw [if_pos q1] at hQ
        refine ite_p q1 (ageR hI h2 ht hc (by omega) (fun M3 h3 => ?_))
        by_cases q2 : ageF (M.1 65) t c (365 * y + tx (M.1 65) 3 t % 365) < yr
        · rw [if_pos q2] at hQ
          exact ite_p q2 (ih (y + 1) M3 (by omega) (by omega) hQ h3)
        · rw [if_neg q2] at hQ
          exact ite_n q2 (hQ M3 h3)
      · rw [if_neg q1] at hQ
        exact ite_n q1 (hQ M2 h2)
  apply wp_X9_comesAt_64
  rw [show (28 + (4 * nI t)) + 3 = nI (28 + 4 * t + 3) from zT t 3, s65 h.1, nn_at (by omega), g0 3 (by omega), show (365 : Int32) = nI 365 from rfl, pk_div (by omega) (by omega) (by omega)]
  refine ⟨vin_n (by omega) (by decide), ?_⟩
  apply wp_X9_comesAt_64_L16
  rw [show (365 : Int32) = nI 365 from rfl, pk_rem (by omega) (by omega) (by omega), nI_mul, nI_add, nI_1]
  refine ite_p (nI_ltI' (b := 200) (by omega) (by decide) (by omega)) ?_
  rw [show 365 * (tx (M.1 65) 3 t / 365) + tx (M.1 65) 3 t % 365 = tx (M.1 65) 3 t by omega]
  unfold cmO at hQ
  by_cases q0 : 365 * (tx (M.1 65) 3 t / 365) < tx (M.1 65) 3 t
  · refine ite_p (nI_ltI' (by omega) (by omega) q0) (ageR hI h ht hc g4 (fun M2 h2 => ?_))
    by_cases q1 : ageF (M.1 65) t c (tx (M.1 65) 3 t) < yr
    · rw [if_pos q1] at hQ
      exact ite_p q1 (ageR hI h2 ht hc g4 (fun M3 h3 => ite_p q1 (key _ _ M3 (by omega) (by omega) hQ h3)))
    · rw [if_neg q1] at hQ
      exact ite_n q1 (hQ M2 h2)
  · refine ite_n (nI_nltI (by omega) (by omega) (by omega)) ?_
    rw [show 365 * (tx (M.1 65) 3 t / 365) = tx (M.1 65) 3 t by omega]
    refine ageR hI h ht hc g4 (fun M2 h2 => ?_)
    by_cases q1 : ageF (M.1 65) t c (tx (M.1 65) 3 t) < yr
    · rw [if_pos q1] at hQ
      exact ite_p q1 (ageR hI h2 ht hc g4 (fun M3 h3 => ite_p q1 (key _ _ M3 (by omega) (by omega) hQ h3)))
    · rw [if_neg q1] at hQ
      exact ite_n q1 (hQ M2 h2)
theorem Inv_err2 {M M1 M2 : Mem} (hI : Inv M) (k : Nat) (h1 : FR scr M M1) (h2 : FR scr (mw M1 6 k (M1.1 6 k + 1)) M2) : Inv (mw M2 67 k (M2.1 67 k + 1)) := by
  refine Inv_scr (Inv_err (Inv_FR hI h1) k) (fun q hq => ?_)
  have e := h2.2 q hq
  by_cases h : q = 67
  · subst h
    rw [mw_at, mw_at, e]
  · rw [mw_ne _ _ _ h, mw_ne _ _ _ h, e]
theorem IWM_6 {M M1 : Mem} (hI : IWM M) (h1 : FR scr M M1) (k : Nat) (x : Int32) : IWM (mw M1 6 k x) := by
  refine IWM_of hI (fun q hq => ?_)
  rw [mw_ne _ _ _ (fun e => hq (by rw [e]; decide)), h1.2 q (fun e => hq (List.mem_cons_of_mem _ (List.mem_cons_of_mem _ e)))]
theorem e65_6 {M M1 : Mem} (h1 : FR scr M M1) (k : Nat) (x : Int32) : (mw M1 6 k x).1 65 = M.1 65 := by rw [mw_ne _ _ _ (by decide), s65 h1]
theorem P_comes {xs : gX} {d : Nat} {M : Mem} (hI : Inv M) (a b c : Int32) : PB xs d mX8_comes mX9_comes [.int a, .int b, .int c] M := by
  obtain ⟨⟨v1, i1⟩, ⟨v2, i2⟩, ⟨v3, i3⟩, ⟨v4, i4⟩, i5⟩ := id hI.1
  have hT0 : M.1 65 1 = nI (N (M.1 65) 1) := v2.1
  have hT1 : M.1 20 1 = nI (N (M.1 65) 1) := i2.1.trans v2.1
  have hTn := v2.2.1
  have hP0 : M.1 65 2 = nI (N (M.1 65) 2) := v3.1
  have hP1 : M.1 22 2 = nI (N (M.1 65) 2) := i3.1.trans v3.1
  have hPn := v3.2.1
  have hS0 : M.1 65 0 = nI (ns (M.1 65)) := v1.1
  have hS1 : M.1 15 4 = nI (ns (M.1 65)) := i1.1.trans v1.1
  have hSn := v1.2.1
  rcases arg3 a (N (M.1 65) 1) (by omega) with h | ⟨h0, h1⟩ | ⟨ja, hja, rfl⟩
  · apply wp_X8_comes_0
    refine (ite_p h ?_)
    apply wp_X9_comes_64
    exact (ite_p h ⟨rfl, Inv_err hI 1⟩)
  · apply wp_X8_comes_0
    refine (ite_n h0 (ite_n (cnt_o hT1 h1) ?_))
    apply wp_X9_comes_64
    exact (ite_n h0 (ite_p (cnt_out hT0 (by omega) h0 h1) ⟨rfl, Inv_err hI 1⟩))
  obtain ⟨a1, a2, a3⟩ := cnt_in hT1 hT0 (by omega) hja
  rcases arg3 b 4 (by decide) with h | ⟨h0, h1⟩ | ⟨jb, hjb, rfl⟩
  · apply wp_X8_comes_0
    refine (ite_n a1 (ite_p a2 (ite_p h ?_)))
    apply wp_X9_comes_64
    exact (ite_n a1 (ite_n a3 (ite_p h ⟨rfl, Inv_err hI 1⟩)))
  · apply wp_X8_comes_0
    refine (ite_n a1 (ite_p a2 (ite_n h0 (ite_n h1 ?_))))
    apply wp_X9_comes_64
    exact (ite_n a1 (ite_n a3 (ite_n h0 (ite_p (ar_out (n := 3) rfl rfl (by decide) h1) ⟨rfl, Inv_err hI 1⟩))))
  obtain ⟨b1, b2, b3⟩ := ar_in (n := 3) (x := 4) (y := 3) rfl rfl hjb (by decide)
  rcases argY c with h | ⟨h0, h1⟩ | ⟨jc, hjc, hkc, rfl⟩
  · apply wp_X8_comes_0
    refine (ite_n a1 (ite_p a2 (ite_n b1 (ite_p b2 (ite_p h ?_)))))
    apply wp_X9_comes_64
    exact (ite_n a1 (ite_n a3 (ite_n b1 (ite_n b3 (ite_p h ⟨rfl, Inv_err hI 1⟩)))))
  · apply wp_X8_comes_0
    refine (ite_n a1 (ite_p a2 (ite_n b1 (ite_p b2 (ite_n h0 (ite_p h1 ?_))))))
    apply wp_X9_comes_64
    exact (ite_n a1 (ite_n a3 (ite_n b1 (ite_n b3 (ite_n h0 (ite_p h1 ⟨rfl, Inv_err hI 1⟩))))))
  obtain ⟨c1, c2⟩ := ar_inY hjc hkc
  obtain ⟨g0, g1, g2, g3, g4, g5⟩ := txI hI.1 hja
  apply wp_X8_comes_0
  refine (ite_n a1 (ite_p a2 (ite_n b1 (ite_p b2 (ite_n c1 (ite_n c2 ?_))))))
  refine dayOfAge_ok hI.1 FR.rfl' hja hjb (fun M1 h1 => ?_)
  cases hcm : cmO (M.1 65) ja jb (nI jc) with
  | none =>
    refine ite_p (by decide) ?_
    have e65 := e65_6 h1 2 (M1.1 6 2 + 1)
    rw [← e65] at a3
    apply wp_X9_comes_64
    refine (ite_n a1 (ite_n a3 (ite_n b1 (ite_n b3 (ite_n c1 (ite_n c2 ?_))))))
    refine namesR (IWM_6 hI.1 h1 2 _) FR.rfl' (fun M2 h2 => comesAt_ok (IWM_6 hI.1 h1 2 _) h2 (by rw [e65]; exact hja) hjb (fun M3 h3 => ?_))
    rw [e65, hcm]
    exact ite_p rfl ⟨rfl, Inv_err2 hI 2 h1 h3.1⟩
  | some j =>
    have hj := cmO_lt g4 hcm
    refine ite_n (nI_lt0 (by omega)) ?_
    rw [← s65 h1] at a3
    apply wp_X9_comes_64
    refine (ite_n a1 (ite_n a3 (ite_n b1 (ite_n b3 (ite_n c1 (ite_n c2 ?_))))))
    refine namesR hI.1 h1 (fun M2 h2 => comesAt_ok hI.1 h2 hja hjb (fun M3 h3 => ?_))
    rw [hcm]
    exact ite_n (nI_neg_ne (by omega) (by decide)) ⟨rfl, Inv_FR hI h3.1⟩
def whS (s : Nat → Int32) (t : Nat) (yr : Int32) : Nat → Option (Nat × Nat)
  | 0 => none
  | c + 1 => match cmO s t c yr with
    | none => whS s t yr c
    | some j => match whS s t yr c with
      | none => some (c, j)
      | some p => if j < p.2 then some (c, j) else some p
theorem whS_lt {s : Nat → Int32} {t : Nat} {yr : Int32} (hb : tx s 3 t < 73000) : ∀ c p, whS s t yr c = some p → p.1 < c ∧ p.2 < 73000 := by
  intro c
  induction c with
  | zero => intro p h; cases h
  | succ c ih =>
    intro p h
    unfold whS at h
    cases hcm : cmO s t c yr with
    | none =>
      rw [hcm] at h
      have := ih p h
      exact ⟨by omega, this.2⟩
    | some j =>
      rw [hcm] at h
      have hj := cmO_lt hb hcm
      cases hw : whS s t yr c with
      | none =>
        rw [hw] at h
        cases h
        exact ⟨Nat.lt_succ_self _, hj⟩
      | some p' =>
        rw [hw] at h
        have := ih p' hw
        dsimp only at h
        split at h
        · cases h; exact ⟨Nat.lt_succ_self _, hj⟩
        · cases h; exact ⟨by omega, this.2⟩
def wB : Option (Nat × Nat) → Int32
  | none => -1
  | some p => nI p.1
def wD (z : Nat) : Option (Nat × Nat) → Int32
  | none => nI z
  | some p => nI p.2
theorem P_where {xs : gX} {d : Nat} {M : Mem} (hI : Inv M) (a b : Int32) : PB xs d mX8_where mX9_where [.int a, .int b] M := by
  obtain ⟨⟨v1, i1⟩, ⟨v2, i2⟩, ⟨v3, i3⟩, ⟨v4, i4⟩, i5⟩ := id hI.1
  have hT0 : M.1 65 1 = nI (N (M.1 65) 1) := v2.1
  have hT1 : M.1 20 1 = nI (N (M.1 65) 1) := i2.1.trans v2.1
  have hTn := v2.2.1
  have hP0 : M.1 65 2 = nI (N (M.1 65) 2) := v3.1
  have hP1 : M.1 22 2 = nI (N (M.1 65) 2) := i3.1.trans v3.1
  have hPn := v3.2.1
  have hS0 : M.1 65 0 = nI (ns (M.1 65)) := v1.1
  have hS1 : M.1 15 4 = nI (ns (M.1 65)) := i1.1.trans v1.1
  have hSn := v1.2.1
  rcases arg3 a (N (M.1 65) 1) (by omega) with h | ⟨h0, h1⟩ | ⟨ja, hja, rfl⟩
  · apply wp_X8_where_0
    refine (ite_p h ?_)
    apply wp_X9_where_64
    exact (ite_p h ⟨rfl, Inv_err hI 1⟩)
  · apply wp_X8_where_0
    refine (ite_n h0 (ite_n (cnt_o hT1 h1) ?_))
    apply wp_X9_where_64
    exact (ite_n h0 (ite_p (cnt_out hT0 (by omega) h0 h1) ⟨rfl, Inv_err hI 1⟩))
  obtain ⟨a1, a2, a3⟩ := cnt_in hT1 hT0 (by omega) hja
  rcases argY b with h | ⟨h0, h1⟩ | ⟨jb, hjb, hkb, rfl⟩
  · apply wp_X8_where_0
    refine (ite_n a1 (ite_p a2 (ite_p h ?_)))
    apply wp_X9_where_64
    exact (ite_n a1 (ite_n a3 (ite_p h ⟨rfl, Inv_err hI 1⟩)))
  · apply wp_X8_where_0
    refine (ite_n a1 (ite_p a2 (ite_n h0 (ite_p h1 ?_))))
    apply wp_X9_where_64
    exact (ite_n a1 (ite_n a3 (ite_n h0 (ite_p h1 ⟨rfl, Inv_err hI 1⟩))))
  obtain ⟨b1, b2⟩ := ar_inY hjb hkb
  obtain ⟨g0, g1, g2, g3, g4, g5⟩ := txI hI.1 hja
  have keyC : ∀ (Q : Int32 → Mem → Prop) m c M1, c + m = 4 → FR scr M M1 → (∀ M2, FR scr M M2 → if wB (whS (M.1 65) ja (nI jb) 4) < 0 then Q (((-1000000000) : Int32) - 2) (mw M2 6 2 ((M2.1 6 2) + 1)) else Q (wB (whS (M.1 65) ja (nI jb) 4)) M2) → GW xs (d + 7) mX8_where 30 [(0, .ref 0), (1, .int (nI ja)), (2, .int (nI jb)), (3, .int (wB (whS (M.1 65) ja (nI jb) c))), (4, .int (wD 73000 (whS (M.1 65) ja (nI jb) c))), (5, .int (nI c))] [] M1 (QI Q) := by
    intro Q m
    induction m with
    | zero =>
      intro c M1 hc h1 hQ
      obtain rfl : c = 4 := by omega
      apply wp_X8_where_0_L30
      exact ite_n (by decide) (hQ M1 h1)
    | succ m ih =>
      intro c M1 hc h1 hQ
      apply wp_X8_where_0_L30
      refine ite_p (nI_ltI' (b := 4) (by omega) (by decide) (by omega)) (dayOfAge_ok hI.1 h1 hja (by omega) (fun M2 h2 => ?_))
      have ih := ih (c + 1) M2 (by omega) h2 hQ
      rw [nI_1]
      unfold whS at ih
      cases hcm : cmO (M.1 65) ja c (nI jb) with
      | none =>
        rw [hcm] at ih
        exact ite_p (by decide) ih
      | some j =>
        rw [hcm] at ih
        have hj := cmO_lt g4 hcm
        refine ite_n (nI_lt0 (by omega)) ?_
        cases hw : whS (M.1 65) ja (nI jb) c with
        | none =>
          rw [hw] at ih
          exact ite_p (nI_ltI' (b := 73000) (by omega) (by decide) hj) ih
        | some p =>
          rw [hw] at ih
          have hp := whS_lt g4 c p hw
          dsimp only at ih
          by_cases q : j < p.2
          · rw [if_pos q] at ih
            exact ite_p (nI_ltI' (by omega) (by omega) q) ih
          · rw [if_neg q] at ih
            exact ite_n (nI_nltI (by omega) (by omega) (by omega)) ih
  have keyR : ∀ (Q : Int32 → Mem → Prop) (M0 : Mem), IWM M0 → M0.1 65 = M.1 65 → ∀ m c M1, c + m = 4 → RC M0 M1 → (∀ M2, RC M0 M2 → if wB (whS (M.1 65) ja (nI jb) 4) = (-1) then Q (((-1000000000) : Int32) - 2) (mw M2 67 2 ((M2.1 67 2) + 1)) else Q (wB (whS (M.1 65) ja (nI jb) 4)) M2) → GW xs (d + 7) mX9_where 36 [(0, .ref 64), (1, .int (nI ja)), (2, .int (nI jb)), (3, .int (wB (whS (M.1 65) ja (nI jb) c))), (4, .int (wD 0 (whS (M.1 65) ja (nI jb) c))), (5, .int (nI c))] [] M1 (QI Q) := by
    intro Q M0 hI0 e0 m
    induction m with
    | zero =>
      intro c M1 hc h1 hQ
      obtain rfl : c = 4 := by omega
      apply wp_X9_where_64_L36
      exact ite_n (by decide) (hQ M1 h1)
    | succ m ih =>
      intro c M1 hc h1 hQ
      apply wp_X9_where_64_L36
      refine ite_p (nI_ltI' (b := 4) (by omega) (by decide) (by omega)) (comesAt_ok hI0 h1 (by rw [e0]; exact hja) (by omega) (fun M2 h2 => ?_))
      have ih := ih (c + 1) M2 (by omega) h2 hQ
      rw [nI_1, e0]
      unfold whS at ih
      cases hcm : cmO (M.1 65) ja c (nI jb) with
      | none =>
        rw [hcm] at ih
        exact ite_p rfl ih
      | some j =>
        rw [hcm] at ih
        have hj := cmO_lt g4 hcm
        refine ite_n (nI_neg_ne (by omega) (by decide)) ?_
        cases hw : whS (M.1 65) ja (nI jb) c with
        | none =>
          rw [hw] at ih
          exact ite_p rfl ih
        | some p =>
          rw [hw] at ih
          have hp := whS_lt g4 c p hw
          dsimp only at ih
          refine ite_n (nI_neg_ne (by omega) (by decide)) ?_
          by_cases q : j < p.2
          · rw [if_pos q] at ih
            exact ite_p (nI_ltI' (by omega) (by omega) q) ih
          · rw [if_neg q] at ih
            exact ite_n (nI_nltI (by omega) (by omega) (by omega)) ih
  apply wp_X8_where_0
  refine (ite_n a1 (ite_p a2 (ite_n b1 (ite_n b2 ?_))))
  refine keyC _ 4 0 M (by omega) FR.rfl' (fun M1 h1 => ?_)
  cases hw : whS (M.1 65) ja (nI jb) 4 with
  | none =>
    refine ite_p (by decide) ?_
    have e65 := e65_6 h1 2 (M1.1 6 2 + 1)
    rw [← e65] at a3
    apply wp_X9_where_64
    refine (ite_n a1 (ite_n a3 (ite_n b1 (ite_n b2 ?_))))
    refine namesR (IWM_6 hI.1 h1 2 _) FR.rfl' (fun M2 h2 => keyR _ _ (IWM_6 hI.1 h1 2 _) e65 4 0 M2 (by omega) h2 (fun M3 h3 => ?_))
    rw [hw]
    exact ite_p rfl ⟨rfl, Inv_err2 hI 2 h1 h3.1⟩
  | some p =>
    have hp := whS_lt g4 4 p hw
    refine ite_n (nI_lt0 (by omega)) ?_
    rw [← s65 h1] at a3
    apply wp_X9_where_64
    refine (ite_n a1 (ite_n a3 (ite_n b1 (ite_n b2 ?_))))
    refine namesR hI.1 h1 (fun M2 h2 => keyR _ M hI.1 rfl 4 0 M2 (by omega) h2 (fun M3 h3 => ?_))
    rw [hw]
    exact ite_n (nI_neg_ne (by omega) (by decide)) ⟨rfl, Inv_FR hI h3.1⟩
