/-! ===== papers, clerk ===== -/
theorem Inv_pap {M M2 : Mem} (hI : Inv M) (n : Nat) (hn8 : n ≤ 8) (an ao : Nat → Nat) (hv : ∀ j, j < n → an j < 207 ∧ ao j < 365) (h22 : M2.1 22 2 = nI n) (h2 : M2.1 65 2 = nI n) (hc : ∀ j, j < n → M2.1 23 j = nI (an j) ∧ M2.1 24 j = nI (ao j) ∧ M2.1 65 (68 + 2 * j + 0) = nI (an j) ∧ M2.1 65 (68 + 2 * j + 1) = nI (ao j)) (hs : ∀ i, i ≠ 2 → i ≠ 8 → (i < 68 ∨ 84 ≤ i) → M2.1 65 i = M.1 65 i) (hz : M2.1 1 10 = M2.1 65 8) (h1 : ∀ j, j ≠ 10 → M2.1 1 j = M.1 1 j) (ho : ∀ k, k ∉ [1, 22, 23, 24, 65] → M2.1 k = M.1 k) : Inv M2 := by
  obtain ⟨⟨v1, i1⟩, ⟨v2, i2⟩, ⟨v3, i3⟩, ⟨v4, i4⟩, i5⟩ := id hI.1
  obtain ⟨c1, c2, c3, c4, c5, c6, c7⟩ := i4
  have e6 : N (M2.1 65) 6 = N (M.1 65) 6 := by unfold N; rw [hs 6 (by decide) (by decide) (by decide)]
  have e7 : N (M2.1 65) 7 = N (M.1 65) 7 := by unfold N; rw [hs 7 (by decide) (by decide) (by decide)]
  have b6 := (vin_get v4.2.2.1 (by decide)).2
  have b7 := (vin_get v4.2.2.2.2 (by decide)).2
  have en : N (M2.1 65) 2 = n := by unfold N; rw [h2, nn_at (by omega)]
  refine Inv_of hI (fun k hk => ho k (fun e => ?_)) ⟨⟨VS_congr (hs _ (by omega) (by omega) (by omega)) (fun j _ _ => hs j (by omega) (by omega) (by omega)) v1, SKY_congr v1 (hs _ (by omega) (by omega) (by omega)) (fun j _ _ => hs j (by omega) (by omega) (by omega)) (by rw [ho 15 (by decide)]) (ho _ (by decide)) (ho _ (by decide)) (ho _ (by decide)) (ho _ (by decide)) i1⟩, ⟨VT_congr (hs _ (by omega) (by omega) (by omega)) (fun j _ _ => hs j (by omega) (by omega) (by omega)) v2, ROL_congr v2 (hs _ (by omega) (by omega) (by omega)) (fun j _ _ => hs j (by omega) (by omega) (by omega)) (ho _ (by decide)) (ho _ (by decide)) i2⟩, ⟨⟨by rw [en, h2], by rw [en]; exact hn8, fun p hp => ?_⟩, ⟨by rw [h2]; exact h22, fun p hp => ?_⟩⟩, ⟨VC_congr (fun j _ _ => hs j (by omega) (by omega) (by omega)) (fun j _ _ => hs j (by omega) (by omega) (by omega)) v4, ⟨?_, hz, ?_, ?_, fun k hk => ?_, ?_, fun k hk => ?_⟩⟩, LAWS_congr (fun j _ _ => hs j (by omega) (by omega) (by omega)) (ho _ (by decide)) (ho _ (by decide)) (ho _ (by decide)) (ho _ (by decide)) i5⟩
  · revert e hk; unfold oc wc; simp only [List.mem_append, List.mem_cons, List.not_mem_nil, or_false]; omega
  · rw [en] at hp
    obtain ⟨-, -, g1, g2⟩ := hc p hp
    obtain ⟨g3, g4⟩ := hv p hp
    have x0 : px (M2.1 65) 0 p = an p := by unfold px N; rw [g1, nn_at (by omega)]
    have x1 : px (M2.1 65) 1 p = ao p := by unfold px N; rw [g2, nn_at (by omega)]
    rw [x0, x1]
    refine ⟨fun w hw => ?_, g3, g4⟩
    rcases (show w = 0 ∨ w = 1 by omega) with rfl | rfl
    · rw [x0, g1]
    · rw [x1, g2]
  · rw [en] at hp
    obtain ⟨g0, g0', g1, g2⟩ := hc p hp
    exact ⟨g0.trans g1.symm, g0'.trans g2.symm⟩
  · rw [h1 9 (by decide), hs 3 (by decide) (by decide) (by decide)]; exact c1
  · rw [hs 4 (by decide) (by decide) (by decide), hs 5 (by decide) (by decide) (by decide), h1 11 (by decide), h1 12 (by decide)]; exact c3
  · rw [h1 6 (by decide), hs 6 (by decide) (by decide) (by decide)]; exact c4
  · rw [e6] at hk
    rw [ho _ (by decide), hs _ (by omega) (by omega) (by omega)]; exact c5 k hk
  · rw [h1 8 (by decide), hs 7 (by decide) (by decide) (by decide)]; exact c6
  · rw [e7] at hk
    rw [ho _ (by decide), hs _ (by omega) (by omega) (by omega)]; exact c7 k hk
abbrev ppC (r : Nat → Int32) (cn np k : Nat) : Prop := 2 * k + 1 < cn ∧ np + k < 8 ∧ (¬ r (2 * k) < 0 ∧ r (2 * k) < 207) ∧ (¬ r (2 * k + 1) < 0 ∧ r (2 * k + 1) < 365)
def ppF (r : Nat → Int32) (cn np : Nat) : Nat → Nat → Nat
  | 0, k => k
  | m + 1, k => if ppC r cn np k then ppF r cn np m (k + 1) else k
theorem ppD {xs : gX} {d q : Nat} {M : Mem} {E : Prop} {QQ : Option Value → Mem → Prop} {v1 : Int32} (hq : q < 4) (h : if M.1 (7 + q) 1 = 0 then E else GW xs d mX8_papers 39 [(0, .ref 0), (1, .int v1), (2, .ref (7 + q)), (3, .int 0), (4, .int 0)] [] M QQ) : vp_in (nI q) 4 ∧ (nI q = 0 → if M.1 7 1 = 0 then E else GW xs d mX8_papers 39 [(0, .ref 0), (1, .int v1), (2, .ref 7), (3, .int 0), (4, .int 0)] [] M QQ) ∧ (nI q = 1 → if M.1 8 1 = 0 then E else GW xs d mX8_papers 39 [(0, .ref 0), (1, .int v1), (2, .ref 8), (3, .int 0), (4, .int 0)] [] M QQ) ∧ (nI q = 2 → if M.1 9 1 = 0 then E else GW xs d mX8_papers 39 [(0, .ref 0), (1, .int v1), (2, .ref 9), (3, .int 0), (4, .int 0)] [] M QQ) ∧ (nI q = 3 → if M.1 10 1 = 0 then E else GW xs d mX8_papers 39 [(0, .ref 0), (1, .int v1), (2, .ref 10), (3, .int 0), (4, .int 0)] [] M QQ) :=
  disp4 hq (fun q => if M.1 (7 + q) 1 = 0 then E else GW xs d mX8_papers 39 [(0, .ref 0), (1, .int v1), (2, .ref (7 + q)), (3, .int 0), (4, .int 0)] [] M QQ) h
theorem ppL {xs : gX} {d q : Nat} {M : Mem} {Q : Int32 → Mem → Prop} {v1 v3 v4 : Int32} (hq : q < 4) (h : if (v4 + 1) < M.1 (7 + q) 2 then (vp_in v4 24 ∧ (vp_in (v4 + 1) 24 ∧ (if M.1 (11 + q) v4.toNatClampNeg < 0 then Q v3 M else (if M.1 (11 + q) v4.toNatClampNeg < 207 then (if M.1 (11 + q) ((v4 + 1)).toNatClampNeg < 0 then Q v3 M else (if M.1 (11 + q) ((v4 + 1)).toNatClampNeg < 365 then (if M.1 22 2 < 8 then (vp_in (M.1 22 2) 8 ∧ GW xs (d + 3) mX8_papers 39 [(0, .ref 0), (1, .int v1), (2, .ref (7 + q)), (3, .int (v3 + 1)), (4, .int (v4 + 2))] [] (mw (mw (mw M 23 ((M.1 22 2)).toNatClampNeg (M.1 (11 + q) v4.toNatClampNeg)) 24 ((M.1 22 2)).toNatClampNeg (M.1 (11 + q) ((v4 + 1)).toNatClampNeg)) 22 2 ((M.1 22 2) + 1)) (QI Q)) else Q v3 M) else Q v3 M)) else Q v3 M)))) else Q v3 M) : GW xs (d + 3) mX8_papers 39 [(0, .ref 0), (1, .int v1), (2, .ref (7 + q)), (3, .int v3), (4, .int v4)] [] M (QI Q) := by
  rcases q4 hq with rfl | rfl | rfl | rfl
  · exact wp_X8_papers_0_L39_r0_7 xs d v1 v3 v4 M Q h
  · exact wp_X8_papers_0_L39_r0_8 xs d v1 v3 v4 M Q h
  · exact wp_X8_papers_0_L39_r0_9 xs d v1 v3 v4 M Q h
  · exact wp_X8_papers_0_L39 xs d v1 v3 v4 M Q h
theorem lit206 {a : Int32} (h : ¬ 206 < a) : a < 207 := by
  rw [Int32.lt_iff_toInt_lt] at *
  have : (206 : Int32).toInt = 206 := by decide
  have : (207 : Int32).toInt = 207 := by decide
  omega
theorem lit206' {a : Int32} (h : a < 207) : ¬ 206 < a := by
  rw [Int32.lt_iff_toInt_lt] at *
  have : (206 : Int32).toInt = 206 := by decide
  have : (207 : Int32).toInt = 207 := by decide
  omega
theorem lit364 {a : Int32} (h : ¬ 364 < a) : a < 365 := by
  rw [Int32.lt_iff_toInt_lt] at *
  have : (364 : Int32).toInt = 364 := by decide
  have : (365 : Int32).toInt = 365 := by decide
  omega
theorem lit364' {a : Int32} (h : a < 365) : ¬ 364 < a := by
  rw [Int32.lt_iff_toInt_lt] at *
  have : (364 : Int32).toInt = 364 := by decide
  have : (365 : Int32).toInt = 365 := by decide
  omega
theorem P_papers {xs : gX} {d : Nat} {M : Mem} (hI : Inv M) (a : Int32) : PB xs d mX8_papers mX9_papers [.int a] M := by
  obtain ⟨⟨v1, i1⟩, ⟨v2, i2⟩, ⟨v3, i3⟩, ⟨v4, i4⟩, i5⟩ := id hI.1
  have hT0 : M.1 65 1 = nI (N (M.1 65) 1) := v2.1
  have hT1 : M.1 20 1 = nI (N (M.1 65) 1) := i2.1.trans v2.1
  have hTn := v2.2.1
  have hP0 : M.1 65 2 = nI (N (M.1 65) 2) := v3.1
  have hP1 : M.1 22 2 = nI (N (M.1 65) 2) := i3.1.trans v3.1
  have hPn := v3.2.1
  have hS0 : M.1 65 0 = nI (ns (M.1 65)) := v1.1
  have hS1 : M.1 15 4 = nI (ns (M.1 65)) := i1.1.trans v1.1
  have hSn := v1.2.1
  have hS := hI.2.2.2.2
  rcases arg3 a 4 (by decide) with h | ⟨h0, h1⟩ | ⟨ja, hja, rfl⟩
  · apply wp_X8_papers_0
    refine (ite_p h ?_)
    apply wp_X9_papers_64
    exact (ite_p h ⟨rfl, Inv_err hI 1⟩)
  · apply wp_X8_papers_0
    refine (ite_n h0 (ite_n h1 ?_))
    apply wp_X9_papers_64
    exact (ite_n h0 (ite_p (ar_out (n := 3) rfl rfl (by decide) h1) ⟨rfl, Inv_err hI 1⟩))
  obtain ⟨a1, a2, a3⟩ := ar_in (n := 3) (x := 4) (y := 3) rfl rfl hja (by decide)
  obtain ⟨s1, s2, s3, s4, s5, s6⟩ := hS ja hja
  obtain ⟨cn, hcn, ecn⟩ : ∃ cn, cn < 25 ∧ M.1 79 ja = nI cn := ⟨_, (vin_get s4 (by decide)).2, (vin_get s4 (by decide)).1⟩
  by_cases z0 : M.1 78 ja = 0
  · apply wp_X8_papers_0
    refine (ite_n a1 (ite_p a2 ?_))
    refine ppD hja (ite_p (s1.trans z0) ?_)
    apply wp_X9_papers_64
    refine (ite_n a1 (ite_n a3 ?_))
    rw [nn_at (n := ja) (by omega)]
    exact ⟨vin_n hja (by decide), ite_p z0 ⟨rfl, Inv_err hI 2⟩⟩
  obtain ⟨r, hr⟩ : ∃ r, r = M.1 (11 + ja) := ⟨_, rfl⟩
  obtain ⟨np, hnp⟩ : ∃ np, np = N (M.1 65) 2 := ⟨_, rfl⟩
  rw [← hnp] at hP0 hP1 hPn
  obtain ⟨an, han⟩ : ∃ an : Nat → Nat, an = fun j => if j < np then px (M.1 65) 0 j else (r (2 * (j - np))).toNatClampNeg := ⟨_, rfl⟩
  obtain ⟨ao, hao⟩ : ∃ ao : Nat → Nat, ao = fun j => if j < np then px (M.1 65) 1 j else (r (2 * (j - np) + 1)).toNatClampNeg := ⟨_, rfl⟩
  have old : ∀ j, j < np → an j = px (M.1 65) 0 j ∧ ao j = px (M.1 65) 1 j := fun j hj => by rw [han, hao]; exact ⟨if_pos hj, if_pos hj⟩
  have new : ∀ k, an (np + k) = (r (2 * k)).toNatClampNeg ∧ ao (np + k) = (r (2 * k + 1)).toNatClampNeg := fun k => by
    rw [han, hao]
    dsimp only
    rw [if_neg (by omega), if_neg (by omega), show np + k - np = k by omega]
    exact ⟨rfl, rfl⟩
  have rn : ∀ k, ppC r cn np k → r (2 * k) = nI (an (np + k)) ∧ r (2 * k + 1) = nI (ao (np + k)) ∧ an (np + k) < 207 ∧ ao (np + k) < 365 := by
    intro k ⟨h1, h2, ⟨h3, h4⟩, ⟨h5, h6⟩⟩
    obtain ⟨x, hx, ex⟩ := nI_of h3
    obtain ⟨y, hy, ey⟩ := nI_of h5
    obtain ⟨n1, n2⟩ := new k
    rw [ex, nn_at hx] at n1
    rw [ey, nn_at hy] at n2
    rw [ex] at h4 ⊢
    rw [ey] at h6 ⊢
    rw [n1, n2]
    exact ⟨rfl, rfl, (nI_ltI (b := 207) hx (by decide)).mp h4, (nI_ltI (b := 365) hy (by decide)).mp h6⟩
  -- the reference behind the class
  have ref : ∀ (K : Nat) (Mc : Mem), np + K ≤ 8 → (∀ j, j < K → ppC r cn np j) → ppF r cn np 9 0 = K → Mc.1 22 2 = nI (np + K) → (∀ j, j < np + K → Mc.1 23 j = nI (an j) ∧ Mc.1 24 j = nI (ao j)) → (∀ q, q ≠ 22 → q ≠ 23 → q ≠ 24 → Mc.1 q = M.1 q) → MI xs (d + 7) mX9_papers [.ref 64, .int (nI ja)] Mc (fun r2 M2 => nI K = r2 ∧ Inv M2) := by
    intro K Mc hK8 hKv hKF hK22 hKc hKo
    apply wp_X9_papers_64
    refine (ite_n a1 (ite_n a3 ?_))
    rw [nn_at (n := ja) (by omega), hKo 78 (by decide) (by decide) (by decide)]
    refine ⟨vin_n hja (by decide), ite_n z0 ?_⟩
    have key : ∀ m k M2, k + m = 9 → ppF r cn np m k = K → (∀ j, j < k → ppC r cn np j) → np + k ≤ 8 → M2.1 65 2 = nI (np + k) → (∀ j, j < np + k → M2.1 65 (68 + 2 * j + 0) = nI (an j) ∧ M2.1 65 (68 + 2 * j + 1) = nI (ao j)) → (∀ i, i ≠ 2 → (i < 68 ∨ 84 ≤ i) → M2.1 65 i = M.1 65 i) → (∀ q, q ≠ 65 → M2.1 q = Mc.1 q) → GW xs (d + 7) mX9_papers 24 [(0, .ref 64), (1, .int (nI ja)), (2, .int 0), (3, .int (nI k)), (4, .int (24 * nI ja))] [] M2 (QI (fun r2 M2 => nI K = r2 ∧ Inv M2)) := by
      intro m
      induction m with
      | zero => intro k M2 hk _ hv h8 _ _ _ _; omega
      | succ m ih =>
        intro k M2 hk hF hv h8 h2 hc hs ho
        have stop : ¬ ppC r cn np k → nI K = nI k ∧ Inv M2 := by
          intro hst
          unfold ppF at hF
          rw [if_neg hst] at hF
          subst hF
          refine ⟨rfl, Inv_pap hI (np + k) h8 an ao (fun j hj => ?_) (by rw [ho 22 (by decide)]; exact hK22) h2 (fun j hj => ?_) (fun i h1 h2 h3 => hs i h1 h3) ?_ (fun j _ => by rw [ho 1 (by decide), hKo 1 (by decide) (by decide) (by decide)]) (fun q hq => ?_)⟩
          · by_cases e : j < np
            · obtain ⟨x1, x2⟩ := old j e
              obtain ⟨g0, g1, g2, -⟩ := pxI hI.1 (p := j) (by rw [← hnp]; exact e)
              rw [x1, x2]; exact ⟨g1, g2⟩
            · have := rn (j - np) (hv _ (by omega))
              rw [show np + (j - np) = j by omega] at this
              exact ⟨this.2.2.1, this.2.2.2⟩
          · rw [ho 23 (by decide), ho 24 (by decide)]
            exact ⟨(hKc j hj).1, (hKc j hj).2, (hc j hj).1, (hc j hj).2⟩
          · rw [ho 1 (by decide), hKo 1 (by decide) (by decide) (by decide), hs 8 (by decide) (by decide)]
            exact i4.2.1
          · simp only [List.mem_cons, List.not_mem_nil, or_false] at hq
            rw [ho q (by omega), hKo q (by omega) (by omega) (by omega)]
        have o79 : M2.1 79 = M.1 79 := by rw [ho 79 (by decide), hKo 79 (by decide) (by decide) (by decide)]
        have o80 : M2.1 80 = M.1 80 := by rw [ho 80 (by decide), hKo 80 (by decide) (by decide) (by decide)]
        apply wp_X9_papers_64_L24
        rw [nn_at (n := ja) (by omega), o79, o80, ecn, h2, show (2 * nI k) + 1 = nI (2 * k + 1) by simp only [i_lit, nI_mul, nI_add], show (24 * nI ja) + (2 * nI k) = nI (24 * ja + 2 * k) by simp only [i_lit, nI_mul, nI_add], show nI (24 * ja + 2 * k) + 1 = nI (24 * ja + (2 * k + 1)) from nI_1 _]
        refine ⟨vin_n hja (by decide), ?_⟩
        by_cases q1 : 2 * k + 1 < cn
        · refine ite_p (nI_ltI' (by omega) (by omega) q1) ?_
          have z1 := s6 (2 * k) (by omega)
          have z2 := s6 (2 * k + 1) (by omega)
          rw [← hr] at z1 z2
          by_cases q2 : np + k < 8
          · refine ite_p (nI_ltI' (b := 8) (by omega) (by decide) q2) ⟨vin_n (by omega) (by decide), vin_n (by omega) (by decide), ?_⟩
            rw [nn_at (n := 24 * ja + 2 * k) (by omega), nn_at (n := 24 * ja + (2 * k + 1)) (by omega), ← z1, ← z2]
            by_cases q3 : r (2 * k) < 0
            · exact ite_p q3 (stop (fun z => z.2.2.1.1 q3))
            · refine ite_n q3 ?_
              by_cases q4 : 206 < r (2 * k)
              · exact ite_p q4 (stop (fun z => lit206' z.2.2.1.2 q4))
              · refine ite_n q4 ?_
                by_cases q5 : r (2 * k + 1) < 0
                · exact ite_p q5 (stop (fun z => z.2.2.2.1 q5))
                · refine ite_n q5 ?_
                  by_cases q6 : 364 < r (2 * k + 1)
                  · exact ite_p q6 (stop (fun z => lit364' z.2.2.2.2 q6))
                  · refine ite_n q6 ?_
                    have hgo : ppC r cn np k := ⟨q1, q2, ⟨q3, lit206 q4⟩, ⟨q5, lit364 q6⟩⟩
                    obtain ⟨x1, x2, x3, x4⟩ := rn k hgo
                    have w0 : 68 + (2 * nI (np + k)) = nI (68 + 2 * (np + k) + 0) := by simp only [i_lit, nI_mul, nI_add, Nat.add_zero]
                    rw [mw_at, mw_at, w0, nn_at (n := 68 + 2 * (np + k) + 0) (by omega), upd_ne (k := 68 + 2 * (np + k) + 0) (j := 2) _ _ (by omega), h2, w0, show nI (68 + 2 * (np + k) + 0) + 1 = nI (68 + 2 * (np + k) + 1) from nI_1 _, nn_at (n := 68 + 2 * (np + k) + 1) (by omega), upd_ne (k := 68 + 2 * (np + k) + 1) (j := 2) _ _ (by omega), mw_at, upd_ne (k := 68 + 2 * (np + k) + 0) (j := 2) _ _ (by omega), h2, nI_1, nI_1, x1, x2]
                    refine ⟨vin_n (by omega) (by decide), vin_n (by omega) (by decide), ih (k + 1) _ (by omega) ?_ (fun j hj => ?_) (by omega) ?_ (fun j hj => ?_) (fun i h1 h2 => ?_) (fun q hq => ?_)⟩
                    · unfold ppF at hF; rw [if_pos hgo] at hF; exact hF
                    · by_cases e : j = k
                      · subst e; exact hgo
                      · exact hv j (by omega)
                    · rw [mw_at, upd_at]; rfl
                    · rw [mw_at, mw_at, mw_at, upd_ne _ _ (by omega), upd_ne (k := 2) _ _ (by omega)]
                      by_cases e : j = np + k
                      · subst e
                        rw [upd_ne _ _ (by omega), upd_at, upd_at]
                        exact ⟨rfl, rfl⟩
                      · rw [upd_ne _ _ (by omega), upd_ne _ _ (by omega), upd_ne _ _ (by omega), upd_ne _ _ (by omega)]
                        exact hc j (by omega)
                    · rw [mw_at, mw_at, mw_at, upd_ne _ _ h1, upd_ne _ _ (by omega), upd_ne _ _ (by omega)]
                      exact hs i h1 h2
                    · rw [mw_ne _ _ _ hq, mw_ne _ _ _ hq, mw_ne _ _ _ hq]; exact ho q hq
          · exact ite_n (nI_nltI (b := 8) (by omega) (by decide) (by omega)) (stop (fun z => q2 z.2.1))
        · exact ite_n (nI_nltI (by omega) (by omega) (by omega)) (stop (fun z => q1 z.1))
    refine key 9 0 Mc (by omega) hKF (fun j hj => absurd hj (Nat.not_lt_zero j)) (by omega) (by rw [hKo 65 (by decide) (by decide) (by decide)]; exact hP0) (fun j hj => ?_) (fun i _ _ => by rw [hKo 65 (by decide) (by decide) (by decide)]) (fun _ _ => rfl)
    obtain ⟨x1, x2⟩ := old j (by omega)
    obtain ⟨g0, -⟩ := pxI hI.1 (p := j) (by rw [← hnp]; omega)
    rw [hKo 65 (by decide) (by decide) (by decide), x1, x2]
    exact ⟨g0 0 (by omega), g0 1 (by omega)⟩
  -- the class
  have cls : ∀ m k M1, k + m = 9 → ppF r cn np m k = ppF r cn np 9 0 → (∀ j, j < k → ppC r cn np j) → np + k ≤ 8 → M1.1 22 2 = nI (np + k) → (∀ j, j < np + k → M1.1 23 j = nI (an j) ∧ M1.1 24 j = nI (ao j)) → (∀ q, q ≠ 22 → q ≠ 23 → q ≠ 24 → M1.1 q = M.1 q) → GW xs (d + 7) mX8_papers 39 [(0, .ref 0), (1, .int (nI ja)), (2, .ref (7 + ja)), (3, .int (nI k)), (4, .int (nI (2 * k)))] [] M1 (QI (fun r1 M1 => MI xs (d + 7) mX9_papers [.ref 64, .int (nI ja)] M1 (fun r2 M2 => r1 = r2 ∧ Inv M2))) := by
    intro m
    induction m with
    | zero => intro k M1 hk _ hv h8 _ _ _; omega
    | succ m ih =>
      intro k M1 hk hF hv h8 h22 hc ho
      have stop : ¬ ppC r cn np k → MI xs (d + 7) mX9_papers [.ref 64, .int (nI ja)] M1 (fun r2 M2 => nI k = r2 ∧ Inv M2) := by
        intro hst
        rw [show ppF r cn np (m + 1) k = (if ppC r cn np k then ppF r cn np m (k + 1) else k) from rfl, if_neg hst] at hF
        exact ref k M1 h8 hv hF.symm h22 hc ho
      refine ppL hja ?_
      rw [ho (7 + ja) (by omega) (by omega) (by omega), s3, ecn, ho (11 + ja) (by omega) (by omega) (by omega), ← hr, h22, show nI (2 * k) + 1 = nI (2 * k + 1) from nI_1 _, nn_at (n := 2 * k) (by omega), nn_at (n := 2 * k + 1) (by omega), nn_at (n := np + k) (by omega)]
      by_cases q1 : 2 * k + 1 < cn
      · refine ite_p (nI_ltI' (by omega) (by omega) q1) ⟨vin_n (by omega) (by decide), vin_n (by omega) (by decide), ?_⟩
        by_cases q3 : r (2 * k) < 0
        · exact ite_p q3 (stop (fun z => z.2.2.1.1 q3))
        · refine ite_n q3 ?_
          by_cases q4 : r (2 * k) < 207
          · refine ite_p q4 ?_
            by_cases q5 : r (2 * k + 1) < 0
            · exact ite_p q5 (stop (fun z => z.2.2.2.1 q5))
            · refine ite_n q5 ?_
              by_cases q6 : r (2 * k + 1) < 365
              · refine ite_p q6 ?_
                by_cases q2 : np + k < 8
                · refine ite_p (nI_ltI' (b := 8) (by omega) (by decide) q2) ⟨vin_n q2 (by decide), ?_⟩
                  have hgo : ppC r cn np k := ⟨q1, q2, ⟨q3, q4⟩, ⟨q5, q6⟩⟩
                  obtain ⟨x1, x2, x3, x4⟩ := rn k hgo
                  rw [x1, x2, nI_1, nI_1, show nI (2 * k) + 2 = nI (2 * (k + 1)) from nI_add _ 2]
                  refine ih (k + 1) _ (by omega) ?_ (fun j hj => ?_) (by omega) ?_ (fun j hj => ?_) (fun q h1 h2 h3 => ?_)
                  · rw [show ppF r cn np (m + 1) k = (if ppC r cn np k then ppF r cn np m (k + 1) else k) from rfl, if_pos hgo] at hF; exact hF
                  · by_cases e : j = k
                    · subst e; exact hgo
                    · exact hv j (by omega)
                  · rw [mw_at, upd_at]; rfl
                  · rw [mw_ne _ _ _ (by decide : (23 : Nat) ≠ 22), mw_ne _ _ _ (by decide : (24 : Nat) ≠ 22), mw_ne _ _ _ (by decide : (23 : Nat) ≠ 24), mw_at, mw_at, mw_ne _ _ _ (by decide : (24 : Nat) ≠ 23)]
                    by_cases e : j = np + k
                    · subst e; rw [upd_at, upd_at]; exact ⟨rfl, rfl⟩
                    · rw [upd_ne _ _ e, upd_ne _ _ e]; exact hc j (by omega)
                  · rw [mw_ne _ _ _ h1, mw_ne _ _ _ h3, mw_ne _ _ _ h2]; exact ho q h1 h2 h3
                · exact ite_n (nI_nltI (b := 8) (by omega) (by decide) (by omega)) (stop (fun z => q2 z.2.1))
              · exact ite_n q6 (stop (fun z => q6 z.2.2.2.2))
          · exact ite_n q4 (stop (fun z => q4 z.2.2.1.2))
      · exact ite_n (nI_nltI (by omega) (by omega) (by omega)) (stop (fun z => q1 z.1))
  apply wp_X8_papers_0
  refine (ite_n a1 (ite_p a2 ?_))
  refine ppD hja (ite_n (fun e => z0 (s1.symm.trans e)) ?_)
  refine cls 9 0 M (by omega) rfl (fun j hj => absurd hj (Nat.not_lt_zero j)) (by omega) hP1 (fun j hj => ?_) (fun _ _ _ _ => rfl)
  obtain ⟨x1, x2⟩ := old j (by omega)
  obtain ⟨g0, g1, g2, g3, g4, g5⟩ := pxI hI.1 (p := j) (by rw [← hnp]; omega)
  rw [x1, x2]
  exact ⟨g4, g5⟩
/-! clerk -/
def dzS (z : Int32) : Int32 := z * 1103515245 + 12345
def dzR (z : Int32) : Int32 := (z.toUInt32 >>> ((8 : Int32).toUInt32 &&& Int32.toUInt32 31)).toInt32 - (z.toUInt32 >>> ((8 : Int32).toUInt32 &&& Int32.toUInt32 31)).toInt32 / 8 * 8
def zzF (z : Int32) : Nat → Int32
  | 0 => z
  | p + 1 => dzS (zzF z p)
def cNm (z : Int32) (a : Nat) : Nat := if dzR z = 0 then min 206 (a + 1) else if dzR z = 1 then a - 1 else a
def cOt (z : Int32) (a : Nat → Nat) : Nat → Nat
  | 0 => 0
  | p + 1 => cOt z a p + (if cNm (zzF z (p + 1)) (a p) = a p then 0 else 1)
theorem cOt_le (z : Int32) (a : Nat → Nat) : ∀ p, cOt z a p ≤ p := by
  intro p
  induction p with
  | zero => exact Nat.le_refl 0
  | succ p ih =>
    show cOt z a p + (if cNm (zzF z (p + 1)) (a p) = a p then 0 else 1) ≤ p + 1
    split <;> omega
theorem hld0 {a : Nat} (ha : a ≤ 206) : hld (nI a + 1) 0 206 = nI (min 206 (a + 1)) := by
  rw [nI_1]
  unfold hld
  rw [if_neg (nI_lt0 (by omega))]
  by_cases q : a = 206
  · subst q; rfl
  · rw [if_neg (show ¬ (206 : Int32) < nI (a + 1) from nI_nltI (a := 206) (by decide) (by omega) (by omega)), show min 206 (a + 1) = a + 1 by omega]
theorem hld1 {a : Nat} (ha : a ≤ 206) : hld (nI a + (-1)) 0 206 = nI (a - 1) := by
  rw [m1_eq]
  unfold hld
  cases a with
  | zero => rfl
  | succ a =>
    rw [nI_pred, if_neg (nI_lt0 (by omega)), if_neg (show ¬ (206 : Int32) < nI a from nI_nltI (a := 206) (by decide) (by omega) (by omega))]
    rfl
theorem hld2 {a : Nat} (ha : a ≤ 206) : hld (nI a + 0) 0 206 = nI a := by
  rw [show nI a + 0 = nI a from nI_add a 0]
  unfold hld
  rw [if_neg (nI_lt0 (by omega)), if_neg (show ¬ (206 : Int32) < nI a from nI_nltI (a := 206) (by decide) (by omega) (by omega))]
theorem cNm_le {z : Int32} {a : Nat} (ha : a < 207) : cNm z a < 207 := by
  unfold cNm
  split
  · omega
  · split <;> omega
theorem P_clerk {xs : gX} {d : Nat} {M : Mem} (hI : Inv M) : PB xs d mX8_clerk mX9_clerk [] M := by
  obtain ⟨⟨v1, i1⟩, ⟨v2, i2⟩, ⟨v3, i3⟩, ⟨v4, i4⟩, i5⟩ := id hI.1
  have hT0 : M.1 65 1 = nI (N (M.1 65) 1) := v2.1
  have hT1 : M.1 20 1 = nI (N (M.1 65) 1) := i2.1.trans v2.1
  have hTn := v2.2.1
  have hP0 : M.1 65 2 = nI (N (M.1 65) 2) := v3.1
  have hP1 : M.1 22 2 = nI (N (M.1 65) 2) := i3.1.trans v3.1
  have hPn := v3.2.1
  have hS0 : M.1 65 0 = nI (ns (M.1 65)) := v1.1
  have hS1 : M.1 15 4 = nI (ns (M.1 65)) := i1.1.trans v1.1
  have hSn := v1.2.1
  obtain ⟨np, hnp⟩ : ∃ np, np = N (M.1 65) 2 := ⟨_, rfl⟩
  rw [← hnp] at hP0 hP1 hPn
  obtain ⟨a, ha⟩ : ∃ a : Nat → Nat, a = fun j => px (M.1 65) 0 j := ⟨_, rfl⟩
  obtain ⟨o, ho⟩ : ∃ o : Nat → Nat, o = fun j => px (M.1 65) 1 j := ⟨_, rfl⟩
  have hax : ∀ j, j < np → a j < 207 ∧ o j < 365 ∧ M.1 65 (68 + 2 * j + 0) = nI (a j) ∧ M.1 65 (68 + 2 * j + 1) = nI (o j) ∧ M.1 23 j = nI (a j) ∧ M.1 24 j = nI (o j) := by
    intro j hj
    obtain ⟨g0, g1, g2, g3, g4, g5⟩ := pxI hI.1 (p := j) (by rw [← hnp]; exact hj)
    rw [ha, ho]
    exact ⟨g1, g2, g0 0 (by omega), g0 1 (by omega), g4, g5⟩
  obtain ⟨z, hz⟩ : ∃ z, z = M.1 65 8 := ⟨_, rfl⟩
  have hz1 : M.1 1 10 = z := by rw [hz]; exact i4.2.1
  -- the new name of paper j behind p papers
  obtain ⟨nw, hnw⟩ : ∃ nw : Nat → Nat → Nat, nw = fun p j => if j < p then cNm (zzF z (j + 1)) (a j) else a j := ⟨_, rfl⟩
  have nw_t : ∀ p j, j < p → nw p j = cNm (zzF z (j + 1)) (a j) := fun p j h => by rw [hnw]; exact if_pos h
  have nw_f : ∀ p j, ¬ j < p → nw p j = a j := fun p j h => by rw [hnw]; exact if_neg h
  have nw_lt : ∀ p j, j < np → nw p j < 207 := fun p j hj => by
    by_cases q : j < p
    · rw [nw_t p j q]; exact cNm_le (hax j hj).1
    · rw [nw_f p j q]; exact (hax j hj).1
  have ref : ∀ (Mc : Mem), Mc.1 1 10 = zzF z np → (∀ j, j ≠ 10 → Mc.1 1 j = M.1 1 j) → (∀ j, j < np → Mc.1 23 j = nI (nw np j)) → (∀ q, q ≠ 1 → q ≠ 23 → Mc.1 q = M.1 q) → MI xs (d + 7) mX9_clerk [.ref 64] Mc (fun r2 M2 => nI (cOt z a np) = r2 ∧ Inv M2) := by
    intro Mc k1 k2 k3 k4
    have key : ∀ m p M2, p + m = np → M2.1 65 8 = zzF z p → (∀ j, j < np → M2.1 65 (68 + 2 * j + 0) = nI (nw p j)) → (∀ i, i ≠ 8 → (i < 68 ∨ 84 ≤ i ∨ i % 2 = 1) → M2.1 65 i = M.1 65 i) → (∀ q, q ≠ 65 → M2.1 q = Mc.1 q) → GW xs (d + 7) mX9_clerk 4 [(0, .ref 64), (1, .int (nI (cOt z a p))), (2, .int (nI p))] [] M2 (QI (fun r2 M2 => nI (cOt z a np) = r2 ∧ Inv M2)) := by
      intro m
      induction m with
      | zero =>
        intro p M2 hp h8 hn hs hq
        obtain rfl : p = np := by omega
        apply wp_X9_clerk_64_L4
        rw [hs 2 (by decide) (by decide), hP0]
        refine ite_n (nI_nltI (by omega) (by omega) (by omega)) ⟨rfl, Inv_pap hI p hPn (nw p) o (fun j hj => ⟨nw_lt p j hj, (hax j hj).2.1⟩) (by rw [hq 22 (by decide), k4 22 (by decide) (by decide)]; exact hP1) (by rw [hs 2 (by decide) (by decide)]; exact hP0) (fun j hj => ?_) (fun i h1 h2 h3 => hs i h2 (by omega)) (by rw [hq 1 (by decide), k1, h8]) (fun j hj => by rw [hq 1 (by decide), k2 j hj]) (fun q hq2 => ?_)⟩
        · rw [hq 23 (by decide), hq 24 (by decide), k4 24 (by decide) (by decide), hs (68 + 2 * j + 1) (by omega) (by omega)]
          exact ⟨k3 j hj, (hax j hj).2.2.2.2.2, hn j hj, (hax j hj).2.2.2.1⟩
        · simp only [List.mem_cons, List.not_mem_nil, or_false] at hq2
          rw [hq q (by omega), k4 q (by omega) (by omega)]
      | succ m ih =>
        intro p M2 hp h8 hn hs hq
        obtain ⟨g1, g2, g3, g4, g5, g6⟩ := hax p (by omega)
        have hnp1 := hn p (by omega)
        rw [nw_f p p (by omega), Nat.add_zero] at hnp1
        apply wp_X9_clerk_64_L4
        rw [hs 2 (by decide) (by decide), hP0, show 68 + (2 * nI p) = nI (68 + 2 * p) by simp only [i_lit, nI_mul, nI_add], nn_at (n := 68 + 2 * p) (by omega), h8, show zzF z p * 1103515245 + 12345 = zzF z (p + 1) from rfl, mw_at, upd_ne (k := 8) (j := 68 + 2 * p) _ _ (by omega), hnp1]
        refine ite_p (nI_ltI' (by omega) (by omega) (by omega)) ⟨vin_n (by omega) (by decide), ?_⟩
        have next : ∀ y, y = cNm (zzF z (p + 1)) (a p) → (if ((mw (mw M2 65 8 (zzF z (p + 1))) 65 (68 + 2 * p) (nI y)).1 65 (68 + 2 * p)) = nI (a p) then GW xs (d + 7) mX9_clerk 4 [(0, .ref 64), (1, .int (nI (cOt z a p) + 0)), (2, .int (nI p + 1))] [] (mw (mw M2 65 8 (zzF z (p + 1))) 65 (68 + 2 * p) (nI y)) (QI (fun r2 M2 => nI (cOt z a np) = r2 ∧ Inv M2)) else GW xs (d + 7) mX9_clerk 4 [(0, .ref 64), (1, .int (nI (cOt z a p) + 1)), (2, .int (nI p + 1))] [] (mw (mw M2 65 8 (zzF z (p + 1))) 65 (68 + 2 * p) (nI y)) (QI (fun r2 M2 => nI (cOt z a np) = r2 ∧ Inv M2))) := by
          intro y hy
          have hy7 : y < 207 := by rw [hy]; exact cNm_le g1
          have ih := ih (p + 1) (mw (mw M2 65 8 (zzF z (p + 1))) 65 (68 + 2 * p) (nI y)) (by omega) ?_ (fun j hj => ?_) (fun i h1 h2 => ?_) (fun q h1 => ?_)
          · rw [show cOt z a (p + 1) = cOt z a p + (if cNm (zzF z (p + 1)) (a p) = a p then 0 else 1) from rfl, ← hy] at ih
            rw [nI_1, nI_1, show nI (cOt z a p) + 0 = nI (cOt z a p) from nI_add _ 0]
            rw [mw_at, upd_at]
            by_cases q : y = a p
            · rw [if_pos q, Nat.add_zero] at ih
              exact ite_p (by rw [q]) ih
            · rw [if_neg q] at ih
              exact ite_n (nI_ne (by omega) (by omega) q) ih
          · rw [mw_at, mw_at, upd_ne _ _ (by omega), upd_at]
          · rw [mw_at, mw_at, show 68 + 2 * j + 0 = 68 + 2 * j from rfl]
            by_cases e : j = p
            · subst e; rw [upd_at, nw_t _ _ (by omega), hy]
            · rw [upd_ne _ _ (by omega), upd_ne _ _ (by omega)]
              have h := hn j hj
              rw [Nat.add_zero] at h
              rw [h]
              by_cases q : j < p
              · rw [nw_t _ _ q, nw_t _ _ (by omega)]
              · rw [nw_f _ _ q, nw_f _ _ (by omega)]
          · rw [mw_at, mw_at, upd_ne _ _ (by omega), upd_ne _ _ h1]; exact hs i h1 h2
          · rw [mw_ne _ _ _ h1, mw_ne _ _ _ h1]; exact hq q h1
        by_cases q0 : dzR (zzF z (p + 1)) = 0
        · refine ite_p q0 (held_ok ?_)
          rw [hld0 (by omega)]
          exact next _ (by unfold cNm; rw [if_pos q0])
        · refine ite_n q0 ?_
          by_cases q1 : dzR (zzF z (p + 1)) = 1
          · refine ite_p q1 (held_ok ?_)
            rw [hld1 (by omega)]
            exact next _ (by unfold cNm; rw [if_neg q0, if_pos q1])
          · refine ite_n q1 (held_ok ?_)
            rw [hld2 (by omega)]
            exact next _ (by unfold cNm; rw [if_neg q0, if_neg q1])
    apply wp_X9_clerk_64
    refine key np 0 Mc (by omega) (by rw [k4 65 (by decide) (by decide), ← hz]; rfl) (fun j hj => ?_) (fun i _ _ => by rw [k4 65 (by decide) (by decide)]) (fun _ _ => rfl)
    rw [k4 65 (by decide) (by decide), nw_f 0 j (by omega)]
    exact (hax j hj).2.2.1
  have cls : ∀ m p M1, p + m = np → M1.1 1 10 = zzF z p → (∀ j, j ≠ 10 → M1.1 1 j = M.1 1 j) → (∀ j, j < np → M1.1 23 j = nI (nw p j)) → (∀ q, q ≠ 1 → q ≠ 23 → M1.1 q = M.1 q) → GW xs (d + 7) mX8_clerk 4 [(0, .ref 0), (1, .int (nI (cOt z a p))), (2, .int (nI p))] [] M1 (QI (fun r1 M1 => MI xs (d + 7) mX9_clerk [.ref 64] M1 (fun r2 M2 => r1 = r2 ∧ Inv M2))) := by
    intro m
    induction m with
    | zero =>
      intro p M1 hp h8 h1 hn hq
      obtain rfl : p = np := by omega
      apply wp_X8_clerk_0_L4
      rw [hq 22 (by decide) (by decide), hP1]
      exact ite_n (nI_nltI (by omega) (by omega) (by omega)) (ref M1 h8 h1 hn hq)
    | succ m ih =>
      intro p M1 hp h8 h1 hn hq
      obtain ⟨g1, g2, g3, g4, g5, g6⟩ := hax p (by omega)
      have hnp1 := hn p (by omega)
      rw [nw_f p p (by omega)] at hnp1
      apply wp_X8_clerk_0_L4
      rw [hq 22 (by decide) (by decide), hP1, nn_at (n := p) (by omega), h8, show zzF z p * 1103515245 + 12345 = zzF z (p + 1) from rfl, hnp1]
      refine ite_p (nI_ltI' (by omega) (by omega) (by omega)) ⟨vin_n (by omega) (by decide), ?_⟩
      have next : ∀ y, y = cNm (zzF z (p + 1)) (a p) → (if nI y = nI (a p) then GW xs (d + 7) mX8_clerk 4 [(0, .ref 0), (1, .int (nI (cOt z a p))), (2, .int (nI p + 1))] [] (mw (mw M1 1 10 (zzF z (p + 1))) 23 p (nI y)) (QI (fun r1 M1 => MI xs (d + 7) mX9_clerk [.ref 64] M1 (fun r2 M2 => r1 = r2 ∧ Inv M2))) else GW xs (d + 7) mX8_clerk 4 [(0, .ref 0), (1, .int (nI (cOt z a p) + 1)), (2, .int (nI p + 1))] [] (mw (mw M1 1 10 (zzF z (p + 1))) 23 p (nI y)) (QI (fun r1 M1 => MI xs (d + 7) mX9_clerk [.ref 64] M1 (fun r2 M2 => r1 = r2 ∧ Inv M2)))) := by
        intro y hy
        have hy7 : y < 207 := by rw [hy]; exact cNm_le g1
        have ih := ih (p + 1) (mw (mw M1 1 10 (zzF z (p + 1))) 23 p (nI y)) (by omega) ?_ (fun j hj => ?_) (fun j hj => ?_) (fun q z1 z2 => ?_)
        · rw [show cOt z a (p + 1) = cOt z a p + (if cNm (zzF z (p + 1)) (a p) = a p then 0 else 1) from rfl, ← hy] at ih
          rw [nI_1, nI_1]
          by_cases q : y = a p
          · rw [if_pos q, Nat.add_zero] at ih
            exact ite_p (by rw [q]) ih
          · rw [if_neg q] at ih
            exact ite_n (nI_ne (by omega) (by omega) q) ih
        · rw [mw_ne _ _ _ (by decide), mw_at, upd_at]
        · rw [mw_ne _ _ _ (by decide), mw_at, upd_ne _ _ hj]; exact h1 j hj
        · rw [mw_at, mw_ne _ _ _ (by decide)]
          by_cases e : j = p
          · subst e; rw [upd_at, nw_t _ _ (by omega), hy]
          · rw [upd_ne _ _ e, hn j hj]
            by_cases q : j < p
            · rw [nw_t _ _ q, nw_t _ _ (by omega)]
            · rw [nw_f _ _ q, nw_f _ _ (by omega)]
        · rw [mw_ne _ _ _ z2, mw_ne _ _ _ z1]; exact hq q z1 z2
      by_cases q0 : dzR (zzF z (p + 1)) = 0
      · refine ite_p q0 (hold_ok (by decide) ?_)
        rw [hld0 (by omega)]
        exact next _ (by unfold cNm; rw [if_pos q0])
      · refine ite_n q0 ?_
        by_cases q1 : dzR (zzF z (p + 1)) = 1
        · refine ite_p q1 (hold_ok (by decide) ?_)
          rw [hld1 (by omega)]
          exact next _ (by unfold cNm; rw [if_neg q0, if_pos q1])
        · refine ite_n q1 (hold_ok (by decide) ?_)
          rw [hld2 (by omega)]
          exact next _ (by unfold cNm; rw [if_neg q0, if_neg q1])
  apply wp_X8_clerk_0
  refine cls np 0 M (by omega) hz1 (fun _ _ => rfl) (fun j hj => ?_) (fun _ _ _ => rfl)
  rw [nw_f 0 j (by omega)]
  exact (hax j hj).2.2.2.2.1
