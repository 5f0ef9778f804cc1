/-! ===== the class reads a text ===== -/
theorem gA2 : ∀ (L : List (Nat × Nat)) (b : Nat × Nat) (i : Nat), i < L.length → (L ++ [b]).getD i (0, 0) = L.getD i (0, 0) := by
  intro L
  induction L with
  | nil => intro b i h; exact absurd h (Nat.not_lt_zero i)
  | cons a L ih =>
    intro b i h
    cases i with
    | zero => rfl
    | succ i => exact ih b i (Nat.lt_of_succ_lt_succ h)
theorem gB2 : ∀ (L : List (Nat × Nat)) (b : Nat × Nat), (L ++ [b]).getD L.length (0, 0) = b := by
  intro L
  induction L with
  | nil => intro b; rfl
  | cons a L ih => intro b; exact ih b
theorem gL2 (L : List (Nat × Nat)) (b : Nat × Nat) : (L ++ [b]).length = L.length + 1 := by rw [List.length_append]; rfl
/-- the class's number for a step -/
def cc (s : Nat × Nat) : Int32 := if s.1 = 0 then nI s.2 else if s.1 = 1 then -nI (s.2 + 1) else if s.1 = 2 then -nI 33 else -nI s.2
def KX (M0 : Mem) (t : Nat → Nat) (n u a : Nat) (M1 : Mem) : Prop := M1.1 3 3 = nI n ∧ (∀ i, i < n → M1.1 61 i = nI (t i)) ∧ M1.1 3 5 = nI (u + 1) ∧ M1.1 3 4 = nI a ∧ ∀ k, k ≠ 3 → k ≠ 62 → M1.1 k = M0.1 k
def KS (M0 : Mem) (t : Nat → Nat) (n u a : Nat) (C : List (Nat × Nat)) (M1 : Mem) : Prop := KX M0 t n u a M1 ∧ M1.1 3 2 = nI C.length ∧ ∀ i, i < C.length → M1.1 62 i = cc (C.getD i (0, 0))
def KF (M0 : Mem) (t : Nat → Nat) (n u a : Nat) (M1 : Mem) : Prop := KX M0 t n u a M1 ∧ ∃ z, z ≤ 60 ∧ M1.1 3 2 = nI z
def KR (M0 : Mem) (t : Nat → Nat) (n u : Nat) (C : List (Nat × Nat)) (r : PR) (M1 : Mem) : Prop := (r.1 = true → KS M0 t n u r.2.1 (C ++ r.2.2) M1) ∧ (r.1 = false → KF M0 t n u r.2.1 M1)
theorem KX_at {M0 M1 : Mem} {t : Nat → Nat} {n u a : Nat} (a' : Nat) (h : KX M0 t n u a M1) : KX M0 t n u a' (mw M1 3 4 (nI a')) := by
  obtain ⟨h1, h2, h3, h4, h5⟩ := h
  unfold KX
  rw [mw_at, upd_ne _ _ (by decide), upd_ne _ _ (by decide), upd_at, mw_ne _ _ _ (by decide)]
  exact ⟨h1, h2, h3, rfl, fun k g1 g2 => by rw [mw_ne _ _ _ g1]; exact h5 k g1 g2⟩
theorem KX_wr {M0 M1 : Mem} {t : Nat → Nat} {n u a : Nat} (z : Nat) (v w : Int32) (h : KX M0 t n u a M1) : KX M0 t n u a (mw (mw M1 62 z v) 3 2 w) := by
  obtain ⟨h1, h2, h3, h4, h5⟩ := h
  unfold KX
  rw [mw_at, mw_ne _ _ _ (by decide : (3 : Nat) ≠ 62), upd_ne _ _ (by decide), upd_ne _ _ (by decide), upd_ne _ _ (by decide), mw_ne _ _ _ (by decide : (61 : Nat) ≠ 3), mw_ne _ _ _ (by decide : (61 : Nat) ≠ 62)]
  exact ⟨h1, h2, h3, h4, fun k g1 g2 => by rw [mw_ne _ _ _ g1, mw_ne _ _ _ g2]; exact h5 k g1 g2⟩
theorem KS_at {M0 M1 : Mem} {t : Nat → Nat} {n u a : Nat} {C : List (Nat × Nat)} (a' : Nat) (h : KS M0 t n u a C M1) : KS M0 t n u a' C (mw M1 3 4 (nI a')) := by
  refine ⟨KX_at a' h.1, ?_, fun i hi => ?_⟩
  · rw [mw_at, upd_ne _ _ (by decide)]; exact h.2.1
  · rw [mw_ne _ _ _ (by decide)]; exact h.2.2 i hi
theorem KS_wr {M0 M1 : Mem} {t : Nat → Nat} {n u a : Nat} {C : List (Nat × Nat)} (s : Nat × Nat) (h : KS M0 t n u a C M1) : KS M0 t n u a (C ++ [s]) (mw (mw M1 62 C.length (cc s)) 3 2 (nI (C.length + 1))) := by
  refine ⟨KX_wr _ _ _ h.1, ?_, fun i hi => ?_⟩
  · rw [mw_at, upd_at, gL2]
  · rw [gL2] at hi
    rw [mw_ne _ _ _ (by decide), mw_at]
    by_cases e : i = C.length
    · subst e; rw [upd_at, gB2]
    · rw [upd_ne _ _ e, gA2 C s i (by omega)]; exact h.2.2 i (by omega)
theorem KF_of {M0 M1 : Mem} {t : Nat → Nat} {n u a : Nat} {C : List (Nat × Nat)} (h : KS M0 t n u a C M1) (hC : C.length ≤ 60) : KF M0 t n u a M1 := ⟨h.1, _, hC, h.2.1⟩
theorem KF_wr {M0 M1 : Mem} {t : Nat → Nat} {n u a z : Nat} (v : Int32) (h : KX M0 t n u a M1) (hz : z < 60) : KF M0 t n u a (mw (mw M1 62 z v) 3 2 (nI (z + 1))) := ⟨KX_wr _ _ _ h, z + 1, hz, by rw [mw_at, upd_at]⟩
theorem KR_t {M0 M1 : Mem} {t : Nat → Nat} {n u a : Nat} {C L : List (Nat × Nat)} (h : KS M0 t n u a (C ++ L) M1) : KR M0 t n u C (true, a, L) M1 := ⟨fun _ => h, fun h => by cases h⟩
theorem KR_f {M0 M1 : Mem} {t : Nat → Nat} {n u a : Nat} {C L : List (Nat × Nat)} (h : KF M0 t n u a M1) : KR M0 t n u C (false, a, L) M1 := ⟨fun h => (by cases h), fun _ => h⟩
theorem KR_app {M0 M1 : Mem} {t : Nat → Nat} {n u : Nat} {C K : List (Nat × Nat)} {q : PR} (h : KR M0 t n u (C ++ K) q M1) : KR M0 t n u C (q.1, q.2.1, K ++ q.2.2) M1 := by
  refine ⟨fun hb => ?_, fun hb => h.2 hb⟩
  have g := h.1 hb
  rw [List.append_assoc] at g
  exact g
theorem sign_ok {xs : gX} {D : Nat} {M0 M1 : Mem} {Q : Int32 → Mem → Prop} {t : Nat → Nat} {n u a l : Nat} (h : KX M0 t n u a M1) (ha : a ≤ n) (hn : n ≤ 60) (hl : l ≤ 4) (ht : ∀ i, i < n → t i < 256) (hQ : Q (b2 (decide (a < n ∧ isg l (t a)))) M1) : MI xs D mX4_isSignOf [.ref 3, .int (nI l)] M1 Q := by
  obtain ⟨x3, x61, x5, x4, xo⟩ := h
  apply wp_X4_isSignOf_3
  rw [x4, x3, nn_at (n := a) (by omega)]
  by_cases hn : a < n
  · have hc := ht a hn
    rw [x61 a hn]
    refine ite_p (nI_ltI' (by omega) (by omega) hn) ?_
    have yes : isg l (t a) → Q 1 M1 := fun q => by rw [decide_eq_true (show a < n ∧ isg l (t a) from ⟨hn, q⟩)] at hQ; exact hQ
    have no : ¬ isg l (t a) → Q 0 M1 := fun q => by rw [decide_eq_false (show ¬ (a < n ∧ isg l (t a)) from fun z => q z.2)] at hQ; exact hQ
    have ne : ∀ c : Nat, c < 256 → t a ≠ c → ¬ nI (t a) = nI c := fun c h1 h2 => nI_ne (by omega) (by omega) h2
    rcases (show l = 0 ∨ l = 1 ∨ l = 2 ∨ l = 3 ∨ l = 4 by omega) with rfl | rfl | rfl | rfl | rfl
    · refine ite_p rfl ⟨vin_n (by omega) (by decide), ?_⟩
      by_cases q : t a = 124
      · exact ite_p (by rw [q]; rfl) (yes (by unfold isg; omega))
      · exact ite_n (ne 124 (by decide) q) (no (by unfold isg; omega))
    · refine ite_n (by decide) (ite_p rfl ⟨vin_n (by omega) (by decide), ?_⟩)
      by_cases q : t a = 38
      · exact ite_p (by rw [q]; rfl) (yes (by unfold isg; omega))
      · exact ite_n (ne 38 (by decide) q) (no (by unfold isg; omega))
    · refine ite_n (by decide) (ite_n (by decide) (ite_p rfl ⟨vin_n (by omega) (by decide), ?_⟩))
      by_cases q : t a = 60
      · exact ite_p (by rw [q]; rfl) (yes (by unfold isg; omega))
      · refine ite_n (ne 60 (by decide) q) ?_
        by_cases q2 : t a = 61
        · exact ite_p (by rw [q2]; rfl) (yes (by unfold isg; omega))
        · refine ite_n (ne 61 (by decide) q2) ?_
          by_cases q3 : t a = 62
          · exact ite_p (by rw [q3]; rfl) (yes (by unfold isg; omega))
          · exact ite_n (ne 62 (by decide) q3) (no (by unfold isg; omega))
    · refine ite_n (by decide) (ite_n (by decide) (ite_n (by decide) (ite_p rfl ⟨vin_n (by omega) (by decide), ?_⟩)))
      by_cases q : t a = 43
      · exact ite_p (by rw [q]; rfl) (yes (by unfold isg; omega))
      · refine ite_n (ne 43 (by decide) q) ?_
        by_cases q2 : t a = 45
        · exact ite_p (by rw [q2]; rfl) (yes (by unfold isg; omega))
        · exact ite_n (ne 45 (by decide) q2) (no (by unfold isg; omega))
    · refine ite_n (by decide) (ite_n (by decide) (ite_n (by decide) (ite_n (by decide) ⟨vin_n (by omega) (by decide), ?_⟩)))
      by_cases q : t a = 42
      · exact ite_p (by rw [q]; rfl) (yes (by unfold isg; omega))
      · refine ite_n (ne 42 (by decide) q) ?_
        by_cases q2 : t a = 47
        · exact ite_p (by rw [q2]; rfl) (yes (by unfold isg; omega))
        · refine ite_n (ne 47 (by decide) q2) ?_
          by_cases q3 : t a = 37
          · exact ite_p (by rw [q3]; rfl) (yes (by unfold isg; omega))
          · exact ite_n (ne 37 (by decide) q3) (no (by unfold isg; omega))
  · rw [decide_eq_false (show ¬ (a < n ∧ isg l (t a)) from fun z => hn z.1)] at hQ
    exact ite_n (nI_nltI (by omega) (by omega) (by omega)) hQ
/-- a byte is a letter -/
theorem bt {x c : Nat} (hx : x < 128) (hc : c < 256) : nI x = (nI c).toInt8.toInt32 ↔ x = c := by
  have e1 : ((nI c).toInt8.toInt32).toInt = (c : Int).bmod 256 := by rw [Int8.toInt_toInt32, Int32.toInt_toInt8, nI_toInt (by omega)]
  constructor
  · intro h
    have h2 := congrArg Int32.toInt h
    rw [e1, nI_toInt (by omega), Int.bmod_def] at h2
    omega
  · intro h
    subst h
    apply Int32.toInt_inj.mp
    rw [e1, nI_toInt (by omega), Int.bmod_def]
    omega

theorem idx_0 {xs : gX} {d : Nat} {M : Mem} {Q : Int32 → Mem → Prop} {c : Nat} (hc : c < 256) (hQ : Q (o2 (nix 0 c)) M) : MI xs (d + 3) mJ0_indexOf_0f7a4 [.ref 1001, .int (nI c)] M Q := by
  apply wp_J0_indexOf_0f7a4_1001
  rw [show gmax (0 : Int32) 0 = nI 0 from by decide, show gmin ((3 : Int32) >>> ((0 : Int32) &&& 31)) 3 = nI 3 from by decide]
  refine ite_n (nI_lt0 (by omega)) (ite_n (nI_nltI (a := 255) (by decide) (by omega) (by omega)) (ite_p (by decide) ?_))
  apply wp_J1_indexOfChar_4cfef_1101
  unfold nix at hQ
  apply wp_J1_indexOfChar_4cfef_1101_L7
  refine ite_p (by decide) ⟨vin (by decide), ?_⟩
  rw [show (txL 1).getD (nI 0).toNatClampNeg 0 = nI 98 from by decide, nI_1]
  by_cases q0 : c = 98
  · rw [if_pos (show c = nmC 0 0 from q0)] at hQ
    exact ite_p ((bt (by decide) hc).mpr q0.symm) hQ
  · rw [if_neg (show ¬ c = nmC 0 0 from q0)] at hQ
    refine ite_n (fun e => q0 ((bt (by decide) hc).mp e).symm) ?_
    apply wp_J1_indexOfChar_4cfef_1101_L7
    refine ite_p (by decide) ⟨vin (by decide), ?_⟩
    rw [show (txL 1).getD (nI 1).toNatClampNeg 0 = nI 116 from by decide, nI_1]
    by_cases q1 : c = 116
    · rw [if_pos (show c = nmC 0 1 from q1)] at hQ
      exact ite_p ((bt (by decide) hc).mpr q1.symm) hQ
    · rw [if_neg (show ¬ c = nmC 0 1 from q1)] at hQ
      refine ite_n (fun e => q1 ((bt (by decide) hc).mp e).symm) ?_
      apply wp_J1_indexOfChar_4cfef_1101_L7
      refine ite_p (by decide) ⟨vin (by decide), ?_⟩
      rw [show (txL 1).getD (nI 2).toNatClampNeg 0 = nI 109 from by decide, nI_1]
      by_cases q2 : c = 109
      · rw [if_pos (show c = nmC 0 2 from q2)] at hQ
        exact ite_p ((bt (by decide) hc).mpr q2.symm) hQ
      · rw [if_neg (show ¬ c = nmC 0 2 from q2)] at hQ
        refine ite_n (fun e => q2 ((bt (by decide) hc).mp e).symm) ?_
        apply wp_J1_indexOfChar_4cfef_1101_L7
        exact ite_n (by decide) hQ
theorem idx_1 {xs : gX} {d : Nat} {M : Mem} {Q : Int32 → Mem → Prop} {c : Nat} (hc : c < 256) (hQ : Q (o2 (nix 1 c)) M) : MI xs (d + 3) mJ0_indexOf_0f7a4 [.ref 1002, .int (nI c)] M Q := by
  apply wp_J0_indexOf_0f7a4_1002
  rw [show gmax (0 : Int32) 0 = nI 0 from by decide, show gmin ((3 : Int32) >>> ((0 : Int32) &&& 31)) 3 = nI 3 from by decide]
  refine ite_n (nI_lt0 (by omega)) (ite_n (nI_nltI (a := 255) (by decide) (by omega) (by omega)) (ite_p (by decide) ?_))
  apply wp_J1_indexOfChar_4cfef_1102
  unfold nix at hQ
  apply wp_J1_indexOfChar_4cfef_1102_L7
  refine ite_p (by decide) ⟨vin (by decide), ?_⟩
  rw [show (txL 2).getD (nI 0).toNatClampNeg 0 = nI 97 from by decide, nI_1]
  by_cases q0 : c = 97
  · rw [if_pos (show c = nmC 1 0 from q0)] at hQ
    exact ite_p ((bt (by decide) hc).mpr q0.symm) hQ
  · rw [if_neg (show ¬ c = nmC 1 0 from q0)] at hQ
    refine ite_n (fun e => q0 ((bt (by decide) hc).mp e).symm) ?_
    apply wp_J1_indexOfChar_4cfef_1102_L7
    refine ite_p (by decide) ⟨vin (by decide), ?_⟩
    rw [show (txL 2).getD (nI 1).toNatClampNeg 0 = nI 107 from by decide, nI_1]
    by_cases q1 : c = 107
    · rw [if_pos (show c = nmC 1 1 from q1)] at hQ
      exact ite_p ((bt (by decide) hc).mpr q1.symm) hQ
    · rw [if_neg (show ¬ c = nmC 1 1 from q1)] at hQ
      refine ite_n (fun e => q1 ((bt (by decide) hc).mp e).symm) ?_
      apply wp_J1_indexOfChar_4cfef_1102_L7
      refine ite_p (by decide) ⟨vin (by decide), ?_⟩
      rw [show (txL 2).getD (nI 2).toNatClampNeg 0 = nI 109 from by decide, nI_1]
      by_cases q2 : c = 109
      · rw [if_pos (show c = nmC 1 2 from q2)] at hQ
        exact ite_p ((bt (by decide) hc).mpr q2.symm) hQ
      · rw [if_neg (show ¬ c = nmC 1 2 from q2)] at hQ
        refine ite_n (fun e => q2 ((bt (by decide) hc).mp e).symm) ?_
        apply wp_J1_indexOfChar_4cfef_1102_L7
        exact ite_n (by decide) hQ
theorem idx_ok {xs : gX} {d : Nat} {M : Mem} {Q : Int32 → Mem → Prop} {u c : Nat} (hu : u < 2) (hc : c < 256) (hQ : Q (o2 (nix u c)) M) : MI xs (d + 3) mJ0_indexOf_0f7a4 [.ref (strK (nI (u + 1))), .int (nI c)] M Q := by
  rcases (show u = 0 ∨ u = 1 by omega) with rfl | rfl
  · rw [show strK (nI (0 + 1)) = 1001 from by decide]; exact idx_0 hc hQ
  · rw [show strK (nI (1 + 1)) = 1002 from by decide]; exact idx_1 hc hQ
theorem num_ok {xs : gX} {D : Nat} {M0 : Mem} {Q : Mem → Prop} {t : Nat → Nat} {n u : Nat} {C : List (Nat × Nat)} (hn : n ≤ 60) (ht : ∀ i, i < n → t i < 256) (hC : C.length < 60) : ∀ k i v a M1, i + k = 4 → a ≤ n → KS M0 t n u a C M1 → (∀ M2, KS M0 t n u (rdN t n k a v).1 (C ++ [(0, (rdN t n k a v).2)]) M2 → Q M2) → GW xs (D + 1) mX4_readNumber 4 [(0, .ref 3), (1, .int (nI v)), (2, .int (nI i))] [] M1 (QV Q) := by
  intro k
  induction k with
  | zero =>
    intro i v a M1 hi ha hK hQ
    have wr := hQ _ (KS_wr (0, v) hK)
    obtain ⟨⟨x3, x61, x5, x4, xo⟩, x2, x62⟩ := id hK
    apply wp_X4_readNumber_3_L4
    rw [x2, nn_at (n := C.length) (by omega), show nI C.length + 1 = nI (C.length + 1) from nI_1 _]
    exact ite_n (nI_nltI (b := 4) (by omega) (by decide) (by omega)) (ite_p (nI_ltI' (b := 60) (by omega) (by decide) hC) ⟨vin_n hC (by decide), wr⟩)
  | succ k ih =>
    intro i v a M1 hi ha hK hQ
    obtain ⟨⟨x3, x61, x5, x4, xo⟩, x2, x62⟩ := id hK
    have wr : ¬ (a < n ∧ isD (t a)) → Q (mw (mw M1 62 C.length (nI v)) 3 2 (nI (C.length + 1))) := by
      intro q
      unfold rdN at hQ
      rw [if_neg q] at hQ
      exact hQ _ (KS_wr (0, v) hK)
    apply wp_X4_readNumber_3_L4
    rw [x4, x3, x2, nn_at (n := C.length) (by omega), nn_at (n := a) (by omega), show nI C.length + 1 = nI (C.length + 1) from nI_1 _]
    refine ite_p (nI_ltI' (b := 4) (by omega) (by decide) (by omega)) ?_
    by_cases q1 : a < n
    · rw [x61 a q1]
      have hc := ht a q1
      refine ite_p (nI_ltI' (by omega) (by omega) q1) ⟨vin_n (by omega) (by decide), ?_⟩
      by_cases q2 : t a < 48
      · exact ite_p (nI_ltI' (b := 48) (by omega) (by decide) q2) (ite_p (nI_ltI' (b := 60) (by omega) (by decide) hC) ⟨vin_n hC (by decide), wr (fun z => by have := z.2.1; omega)⟩)
      · refine ite_n (nI_nltI (b := 48) (by omega) (by decide) (by omega)) ?_
        by_cases q3 : 57 < t a
        · exact ite_p (nI_ltI' (a := 57) (by decide) (by omega) q3) (ite_p (nI_ltI' (b := 60) (by omega) (by decide) hC) ⟨vin_n hC (by decide), wr (fun z => by have := z.2.2; omega)⟩)
        · refine ite_n (nI_nltI (a := 57) (by decide) (by omega) (by omega)) ?_
          rw [show ((nI v * 10) + nI (t a)) - 48 = nI (10 * v + (t a - 48)) by
            rw [show nI v * 10 = nI (v * 10) from nI_mul v 10, nI_add, show nI (v * 10 + t a) - 48 = nI (v * 10 + t a - 48) from pk_sub (a := v * 10 + t a) (b := 48) (by omega), show v * 10 + t a - 48 = 10 * v + (t a - 48) by omega], show nI i + 1 = nI (i + 1) from nI_1 _, show nI a + 1 = nI (a + 1) from nI_1 _]
          unfold rdN at hQ
          rw [if_pos ⟨q1, by omega, by omega⟩] at hQ
          exact ih (i + 1) _ (a + 1) _ (by omega) (by omega) (KS_at (a + 1) hK) hQ
    · exact ite_n (nI_nltI (by omega) (by omega) (by omega)) (ite_p (nI_ltI' (b := 60) (by omega) (by decide) hC) ⟨vin_n hC (by decide), wr (fun z => q1 z.1)⟩)
/-- what the class's readers do with F to spare -/
def ClC (xs : gX) (t : Nat → Nat) (n u : Nat) (M0 : Mem) (F : Nat) : Prop :=
  (∀ (l o a : Nat) (C : List (Nat × Nat)) (M1 : Mem) (D : Nat) (Q : Int32 → Mem → Prop), l ≤ 5 → o ≤ 5 → a ≤ n → C.length ≤ a → 8 * (n - a) + (6 - l) ≤ F → (6 - l) + 4 + 8 * (5 - o) ≤ D → KS M0 t n u a C M1 → (∀ M2, KR M0 t n u C (pz t n u F l o 0 a) M2 → Q (b2 (pz t n u F l o 0 a).1) M2) → MI xs D mX4_readChain [.ref 3, .int (nI l), .int (nI o)] M1 Q) ∧
  (∀ (o a : Nat) (C : List (Nat × Nat)) (M1 : Mem) (D : Nat) (Q : Int32 → Mem → Prop), o ≤ 5 → a ≤ n → C.length ≤ a → 8 * (n - a) + 1 ≤ F → 4 + 8 * (5 - o) ≤ D → KS M0 t n u a C M1 → (∀ M2, KR M0 t n u C (pz t n u F 5 o 0 a) M2 → Q (b2 (pz t n u F 5 o 0 a).1) M2) → MI xs D mX4_readOne [.ref 3, .int (nI o)] M1 Q) ∧
  (∀ (l o cnt i mst a : Nat) (C : List (Nat × Nat)) (M1 : Mem) (D : Nat) (Q : Int32 → Mem → Prop), l ≤ 4 → o ≤ 5 → a ≤ n → C.length ≤ a → (l = 2 → mst = 1 ∧ i + cnt = 1) → (l ≠ 2 → mst = 60 ∧ cnt = 1 ∧ i ≤ a) → 8 * (n - a) + 1 ≤ F → (6 - l) + 4 + 8 * (5 - o) ≤ D → KS M0 t n u a C M1 → (∀ M2, KR M0 t n u C (pz t n u F (10 + l) o cnt a) M2 → Q (b2 (pz t n u F (10 + l) o cnt a).1) M2) → GW xs D mX4_readChain 36 [(0, .ref 3), (1, .int (nI l)), (2, .int (nI o)), (3, .int 1), (4, .int (nI mst)), (5, .int (nI i))] [] M1 (QI Q))
theorem stop0 {xs : gX} {D : Nat} {M : Mem} {Q : Int32 → Mem → Prop} {v1 v2 v4 v5 : Int32} (h : Q 0 M) : GW xs (D + 1) mX4_readChain 36 [(0, .ref 3), (1, .int v1), (2, .int v2), (3, .int 0), (4, .int v4), (5, .int v5)] [] M (QI Q) := by
  apply wp_X4_readChain_3_L36
  by_cases q : v5 < v4
  · exact ite_p q (ite_p rfl ⟨.inl rfl, h⟩)
  · exact ite_n q ⟨.inl rfl, h⟩
theorem m1_sub (i : Nat) : (-1 : Int32) - nI i = -nI (i + 1) := by
  rw [Int32.sub_eq_add_neg, show nI (i + 1) = nI i + 1 from (nI_1 i).symm, Int32.neg_add, Int32.sub_eq_add_neg, Int32.add_comm]

theorem classC {xs : gX} {t : Nat → Nat} {n u : Nat} {M0 : Mem} (hn : n ≤ 60) (hu : u < 2) (ht : ∀ i, i < n → t i < 256) : ∀ F, ClC xs t n u M0 F := by
  intro F
  induction F with
  | zero => exact ⟨fun l o a C M1 D Q h1 h2 h3 h4 h5 => by omega, fun o a C M1 D Q h1 h2 h3 h4 => by omega, fun l o cnt i mst a C M1 D Q h1 h2 h3 h4 h5 h6 h7 => by omega⟩
  | succ F ih =>
    have one : ∀ (o a : Nat) (C : List (Nat × Nat)) (M1 : Mem) (D : Nat) (Q : Int32 → Mem → Prop), o ≤ 5 → a ≤ n → C.length ≤ a → 8 * (n - a) + 1 ≤ F + 1 → 4 + 8 * (5 - o) ≤ D → KS M0 t n u a C M1 → (∀ M2, KR M0 t n u C (pz t n u (F + 1) 5 o 0 a) M2 → Q (b2 (pz t n u (F + 1) 5 o 0 a).1) M2) → MI xs D mX4_readOne [.ref 3, .int (nI o)] M1 Q := by
      intro o a C M1 D Q ho ha hC hF hD hK hQ
      obtain ⟨D, rfl⟩ : ∃ D', D = D' + 4 := ⟨D - 4, by omega⟩
      rw [pz_1] at hQ
      unfold on1 at hQ
      obtain ⟨⟨x3, x61, x5, x4, xo⟩, x2, x62⟩ := id hK
      apply wp_X4_readOne_3
      rw [x4, x3, nn_at (n := a) (by omega)]
      by_cases hna : a < n
      · have hc := ht a hna
        rw [x61 a hna, show ((nI (t a)).toUInt32 % 65536).toInt32 = nI (t a) by rw [pk_char, pk_tn (by omega), Nat.mod_eq_of_lt (by omega)]]
        rw [if_pos hna] at hQ
        refine ite_p (nI_ltI' (by omega) (by omega) hna) ⟨vin_n (by omega) (by decide), ?_⟩
        by_cases hd : isD (t a)
        · rw [if_pos hd] at hQ
          refine ite_n (nI_nltI (b := 48) (by omega) (by decide) hd.1) (ite_n (nI_nltI (a := 57) (by decide) (by omega) hd.2) ?_)
          apply wp_X4_readNumber_3
          exact num_ok hn ht (by omega) 4 0 0 a M1 (by omega) ha hK (fun M2 h2 => hQ M2 (KR_t h2))
        · rw [if_neg hd] at hQ
          by_cases q48 : t a < 48
          · refine ite_p (nI_ltI' (b := 48) (by omega) (by decide) q48) ?_
            rw [x5]
            refine idx_ok hu hc ?_
            cases hx : nix u (t a) with
            | some i =>
              rw [hx] at hQ
              dsimp only at hQ
              refine ite_n (show ¬ o2 (some i) < 0 from nI_lt0 (by have := (nix_lt hx).1; omega)) ?_
              rw [x2, x4, nn_at (n := C.length) (by omega), show nI C.length + 1 = nI (C.length + 1) from nI_1 _, show nI a + 1 = nI (a + 1) from nI_1 _, show (-1 : Int32) - o2 (some i) = cc (1, i) from m1_sub i]
              exact ite_p (nI_ltI' (b := 60) (by omega) (by decide) (by omega)) ⟨vin_n (by omega) (by decide), hQ _ (KR_t (KS_wr (1, i) (KS_at (a + 1) hK)))⟩
            | none =>
              rw [hx] at hQ
              dsimp only at hQ
              refine ite_p (show o2 none < 0 by decide) ?_
              by_cases o5 : o < 5
              · rw [if_pos o5] at hQ
                refine ite_p (nI_ltI' (b := 5) (by omega) (by decide) o5) ?_
                rw [x4, show nI a + 1 = nI (a + 1) from nI_1 _, show nI o + 1 = nI (o + 1) from nI_1 _]
                by_cases e33 : t a = 33
                · rw [if_pos e33] at hQ
                  refine ite_p (by rw [e33]; rfl) (ih.2.1 (o + 1) (a + 1) C _ _ _ (by omega) (by omega) (by omega) (by omega) (by omega) (KS_at (a + 1) hK) (fun M2 h2 => ?_))
                  have gd := pzP (t := t) (n := n) (u := u) F 5 (o + 1) 0 (a + 1) (by omega) (by omega)
                  revert h2 gd hQ
                  generalize pz t n u F 5 (o + 1) 0 (a + 1) = r
                  obtain ⟨rb, ra, rs⟩ := r
                  intro hQ h2 gd
                  cases rb with
                  | false =>
                    obtain ⟨kx, z, hz, ez⟩ := h2.2 rfl
                    have hQ : ∀ M2, KF M0 t n u ra M2 → Q 0 M2 := fun M2 h => hQ M2 (KR_f h)
                    rw [ez, nn_at (n := z) (by omega), show nI z + 1 = nI (z + 1) from nI_1 _]
                    by_cases qz : z < 60
                    · exact ite_p (nI_ltI' (b := 60) (by omega) (by decide) qz) ⟨vin_n qz (by decide), .inl rfl, .inl rfl, hQ _ (KF_wr _ kx qz)⟩
                    · exact ite_n (nI_nltI (b := 60) (by omega) (by decide) (by omega)) ⟨.inl rfl, .inl rfl, hQ M2 ⟨kx, z, hz, ez⟩⟩
                  | true =>
                    have ks := h2.1 rfl
                    have ks : KS M0 t n u ra (C ++ rs) M2 := ks
                    have g1 : ra ≤ n := gd.2.1
                    have g2 : rs.length ≤ ra - (a + 1) := gd.2.2.1
                    have g3 : a + 1 < ra := ((gd.2.2.2.2 rfl).1 (by omega)).1
                    have gl : (C ++ rs).length = C.length + rs.length := List.length_append
                    rw [ks.2.1, nn_at (n := (C ++ rs).length) (by omega), show nI (C ++ rs).length + 1 = nI ((C ++ rs).length + 1) from nI_1 _]
                    refine ite_p (nI_ltI' (b := 60) (by omega) (by decide) (by omega)) ⟨vin_n (by omega) (by decide), .inr rfl, .inr rfl, hQ _ ?_⟩
                    refine KR_t ?_
                    rw [← List.append_assoc]
                    exact KS_wr (2, 0) ks
                · rw [if_neg e33] at hQ
                  refine ite_n (nI_ne (b := 33) (by omega) (by decide) e33) ?_
                  by_cases e40 : t a = 40
                  · rw [if_pos e40] at hQ
                    refine ite_p (by rw [e40]; rfl) (ih.1 0 (o + 1) (a + 1) C _ _ _ (by omega) (by omega) (by omega) (by omega) (by omega) (by omega) (KS_at (a + 1) hK) (fun M2 h2 => ?_))
                    have gd := pzP (t := t) (n := n) (u := u) F 0 (o + 1) 0 (a + 1) (by omega) (by omega)
                    revert h2 gd hQ
                    generalize pz t n u F 0 (o + 1) 0 (a + 1) = r
                    obtain ⟨rb, ra, rs⟩ := r
                    intro hQ h2 gd
                    cases rb with
                    | false =>
                      have kf := h2.2 rfl
                      exact ite_p rfl (hQ M2 (KR_f kf))
                    | true =>
                      have ks : KS M0 t n u ra (C ++ rs) M2 := h2.1 rfl
                      have g1 : ra ≤ n := gd.2.1
                      have g2 : rs.length ≤ ra - (a + 1) := gd.2.2.1
                      have g3 : a + 1 < ra := ((gd.2.2.2.2 rfl).1 (by omega)).1
                      have gl : (C ++ rs).length = C.length + rs.length := List.length_append
                      have kf := KF_of ks (by omega)
                      obtain ⟨y3, y61, y5, y4, yo⟩ := id ks.1
                      refine ite_n (show ¬ b2 true = 0 by decide) ?_
                      rw [y4, y3, nn_at (n := ra) (by omega), show nI ra + 1 = nI (ra + 1) from nI_1 _]
                      by_cases q1 : ra < n
                      · refine ite_p (nI_ltI' (by omega) (by omega) q1) ⟨vin_n (by omega) (by decide), ?_⟩
                        have hc2 := ht ra q1
                        rw [y61 ra q1]
                        by_cases q2 : t ra = 41
                        · have hQ : ∀ M2, KR M0 t n u C (true, ra + 1, rs) M2 → Q 1 M2 := by
                            have e : sq3 t n (true, ra, rs) = (true, ra + 1, rs) := if_pos ⟨rfl, q1, q2⟩
                            rw [e] at hQ
                            exact hQ
                          exact ite_p (by rw [q2]; rfl) (hQ _ (KR_t (KS_at (ra + 1) ks)))
                        · have hQ : ∀ M2, KR M0 t n u C (false, ra, []) M2 → Q 0 M2 := by
                            have e : sq3 t n (true, ra, rs) = (false, ra, []) := if_neg (fun z => q2 z.2.2)
                            rw [e] at hQ
                            exact hQ
                          exact ite_n (nI_ne (b := 41) (by omega) (by decide) q2) (hQ M2 (KR_f kf))
                      · have hQ : ∀ M2, KR M0 t n u C (false, ra, []) M2 → Q 0 M2 := by
                          have e : sq3 t n (true, ra, rs) = (false, ra, []) := if_neg (fun z => q1 z.2.1)
                          rw [e] at hQ
                          exact hQ
                        exact ite_n (nI_nltI (by omega) (by omega) (by omega)) (hQ M2 (KR_f kf))
                  · rw [if_neg e40] at hQ
                    exact ite_n (nI_ne (b := 40) (by omega) (by decide) e40) (hQ M1 (KR_f (KF_of hK (by omega))))
              · rw [if_neg o5] at hQ
                exact ite_n (nI_nltI (b := 5) (by omega) (by decide) (by omega)) (hQ M1 (KR_f (KF_of hK (by omega))))
          · refine ite_n (nI_nltI (b := 48) (by omega) (by decide) (by omega)) (ite_p (nI_ltI' (a := 57) (by decide) (by omega) (by omega)) ?_)
            rw [x5]
            refine idx_ok hu hc ?_
            cases hx : nix u (t a) with
            | some i =>
              rw [hx] at hQ
              dsimp only at hQ
              refine ite_n (show ¬ o2 (some i) < 0 from nI_lt0 (by have := (nix_lt hx).1; omega)) ?_
              rw [x2, x4, nn_at (n := C.length) (by omega), show nI C.length + 1 = nI (C.length + 1) from nI_1 _, show nI a + 1 = nI (a + 1) from nI_1 _, show (-1 : Int32) - o2 (some i) = cc (1, i) from m1_sub i]
              exact ite_p (nI_ltI' (b := 60) (by omega) (by decide) (by omega)) ⟨vin_n (by omega) (by decide), hQ _ (KR_t (KS_wr (1, i) (KS_at (a + 1) hK)))⟩
            | none =>
              rw [hx] at hQ
              dsimp only at hQ
              refine ite_p (show o2 none < 0 by decide) ?_
              by_cases o5 : o < 5
              · rw [if_pos o5] at hQ
                refine ite_p (nI_ltI' (b := 5) (by omega) (by decide) o5) ?_
                rw [x4, show nI a + 1 = nI (a + 1) from nI_1 _, show nI o + 1 = nI (o + 1) from nI_1 _]
                by_cases e33 : t a = 33
                · rw [if_pos e33] at hQ
                  refine ite_p (by rw [e33]; rfl) (ih.2.1 (o + 1) (a + 1) C _ _ _ (by omega) (by omega) (by omega) (by omega) (by omega) (KS_at (a + 1) hK) (fun M2 h2 => ?_))
                  have gd := pzP (t := t) (n := n) (u := u) F 5 (o + 1) 0 (a + 1) (by omega) (by omega)
                  revert h2 gd hQ
                  generalize pz t n u F 5 (o + 1) 0 (a + 1) = r
                  obtain ⟨rb, ra, rs⟩ := r
                  intro hQ h2 gd
                  cases rb with
                  | false =>
                    obtain ⟨kx, z, hz, ez⟩ := h2.2 rfl
                    have hQ : ∀ M2, KF M0 t n u ra M2 → Q 0 M2 := fun M2 h => hQ M2 (KR_f h)
                    rw [ez, nn_at (n := z) (by omega), show nI z + 1 = nI (z + 1) from nI_1 _]
                    by_cases qz : z < 60
                    · exact ite_p (nI_ltI' (b := 60) (by omega) (by decide) qz) ⟨vin_n qz (by decide), .inl rfl, .inl rfl, hQ _ (KF_wr _ kx qz)⟩
                    · exact ite_n (nI_nltI (b := 60) (by omega) (by decide) (by omega)) ⟨.inl rfl, .inl rfl, hQ M2 ⟨kx, z, hz, ez⟩⟩
                  | true =>
                    have ks := h2.1 rfl
                    have ks : KS M0 t n u ra (C ++ rs) M2 := ks
                    have g1 : ra ≤ n := gd.2.1
                    have g2 : rs.length ≤ ra - (a + 1) := gd.2.2.1
                    have g3 : a + 1 < ra := ((gd.2.2.2.2 rfl).1 (by omega)).1
                    have gl : (C ++ rs).length = C.length + rs.length := List.length_append
                    rw [ks.2.1, nn_at (n := (C ++ rs).length) (by omega), show nI (C ++ rs).length + 1 = nI ((C ++ rs).length + 1) from nI_1 _]
                    refine ite_p (nI_ltI' (b := 60) (by omega) (by decide) (by omega)) ⟨vin_n (by omega) (by decide), .inr rfl, .inr rfl, hQ _ ?_⟩
                    refine KR_t ?_
                    rw [← List.append_assoc]
                    exact KS_wr (2, 0) ks
                · rw [if_neg e33] at hQ
                  refine ite_n (nI_ne (b := 33) (by omega) (by decide) e33) ?_
                  by_cases e40 : t a = 40
                  · rw [if_pos e40] at hQ
                    refine ite_p (by rw [e40]; rfl) (ih.1 0 (o + 1) (a + 1) C _ _ _ (by omega) (by omega) (by omega) (by omega) (by omega) (by omega) (KS_at (a + 1) hK) (fun M2 h2 => ?_))
                    have gd := pzP (t := t) (n := n) (u := u) F 0 (o + 1) 0 (a + 1) (by omega) (by omega)
                    revert h2 gd hQ
                    generalize pz t n u F 0 (o + 1) 0 (a + 1) = r
                    obtain ⟨rb, ra, rs⟩ := r
                    intro hQ h2 gd
                    cases rb with
                    | false =>
                      have kf := h2.2 rfl
                      exact ite_p rfl (hQ M2 (KR_f kf))
                    | true =>
                      have ks : KS M0 t n u ra (C ++ rs) M2 := h2.1 rfl
                      have g1 : ra ≤ n := gd.2.1
                      have g2 : rs.length ≤ ra - (a + 1) := gd.2.2.1
                      have g3 : a + 1 < ra := ((gd.2.2.2.2 rfl).1 (by omega)).1
                      have gl : (C ++ rs).length = C.length + rs.length := List.length_append
                      have kf := KF_of ks (by omega)
                      obtain ⟨y3, y61, y5, y4, yo⟩ := id ks.1
                      refine ite_n (show ¬ b2 true = 0 by decide) ?_
                      rw [y4, y3, nn_at (n := ra) (by omega), show nI ra + 1 = nI (ra + 1) from nI_1 _]
                      by_cases q1 : ra < n
                      · refine ite_p (nI_ltI' (by omega) (by omega) q1) ⟨vin_n (by omega) (by decide), ?_⟩
                        have hc2 := ht ra q1
                        rw [y61 ra q1]
                        by_cases q2 : t ra = 41
                        · have hQ : ∀ M2, KR M0 t n u C (true, ra + 1, rs) M2 → Q 1 M2 := by
                            have e : sq3 t n (true, ra, rs) = (true, ra + 1, rs) := if_pos ⟨rfl, q1, q2⟩
                            rw [e] at hQ
                            exact hQ
                          exact ite_p (by rw [q2]; rfl) (hQ _ (KR_t (KS_at (ra + 1) ks)))
                        · have hQ : ∀ M2, KR M0 t n u C (false, ra, []) M2 → Q 0 M2 := by
                            have e : sq3 t n (true, ra, rs) = (false, ra, []) := if_neg (fun z => q2 z.2.2)
                            rw [e] at hQ
                            exact hQ
                          exact ite_n (nI_ne (b := 41) (by omega) (by decide) q2) (hQ M2 (KR_f kf))
                      · have hQ : ∀ M2, KR M0 t n u C (false, ra, []) M2 → Q 0 M2 := by
                          have e : sq3 t n (true, ra, rs) = (false, ra, []) := if_neg (fun z => q1 z.2.1)
                          rw [e] at hQ
                          exact hQ
                        exact ite_n (nI_nltI (by omega) (by omega) (by omega)) (hQ M2 (KR_f kf))
                  · rw [if_neg e40] at hQ
                    exact ite_n (nI_ne (b := 40) (by omega) (by decide) e40) (hQ M1 (KR_f (KF_of hK (by omega))))
              · rw [if_neg o5] at hQ
                exact ite_n (nI_nltI (b := 5) (by omega) (by decide) (by omega)) (hQ M1 (KR_f (KF_of hK (by omega))))
      · rw [if_neg hna] at hQ
        exact ite_n (nI_nltI (by omega) (by omega) (by omega)) (hQ M1 (KR_f (KF_of hK (by omega))))
    refine ⟨?_, one, ?_⟩
    · intro l o a C M1 D Q hl ho ha hC hF hD hK hQ
      obtain ⟨D, rfl⟩ : ∃ D', D = D' + 1 := ⟨D - 1, by omega⟩
      apply wp_X4_readChain_3
      rcases (show l = 5 ∨ l < 5 by omega) with rfl | h5
      · exact ite_n (by decide) (one o a C M1 D _ ho ha hC (by omega) (by omega) hK (fun M2 h2 => ⟨b2_01 _, hQ M2 h2⟩))
      · refine ite_p (nI_ltI' (b := 5) (by omega) (by decide) h5) ?_
        rw [pz_c h5] at hQ
        rw [show nI l + 1 = nI (l + 1) from nI_1 _]
        refine ih.1 (l + 1) o a C M1 D _ (by omega) ho ha hC (by omega) (by omega) hK (fun M2 h2 => ?_)
        have gd := pzP (t := t) (n := n) (u := u) F (l + 1) o 0 a ha (by omega)
        revert h2 gd hQ
        generalize pz t n u F (l + 1) o 0 a = r
        obtain ⟨rb, ra, rs⟩ := r
        intro hQ h2 gd
        cases rb with
        | false =>
          have kf := h2.2 rfl
          have q0 := hQ M2 (KR_f kf)
          by_cases e2 : l = 2
          · exact ite_p (by rw [e2]; rfl) (stop0 q0)
          · exact ite_n (nI_ne (b := 2) (by omega) (by decide) e2) (stop0 q0)
        | true =>
          have ks : KS M0 t n u ra (C ++ rs) M2 := h2.1 rfl
          have g0 : a ≤ ra := gd.1
          have g1 : ra ≤ n := gd.2.1
          have g2 : rs.length ≤ ra - a := gd.2.2.1
          have g3 : a < ra := ((gd.2.2.2.2 rfl).1 (by omega)).1
          have gl : (C ++ rs).length = C.length + rs.length := List.length_append
          have hQ : ∀ M3, KR M0 t n u (C ++ rs) (pz t n u F (10 + l) o 1 ra) M3 → Q (b2 (pz t n u F (10 + l) o 1 ra).1) M3 := fun M3 h3 => hQ M3 (KR_app h3)
          by_cases e2 : l = 2
          · exact ite_p (by rw [e2]; rfl) (ih.2.2 l o 1 0 1 ra (C ++ rs) M2 (D + 1) Q (by omega) ho g1 (by omega) (fun _ => ⟨rfl, rfl⟩) (fun h => absurd e2 h) (by omega) (by omega) ks hQ)
          · exact ite_n (nI_ne (b := 2) (by omega) (by decide) e2) (ih.2.2 l o 1 0 60 ra (C ++ rs) M2 (D + 1) Q (by omega) ho g1 (by omega) (fun h => absurd h e2) (fun _ => ⟨rfl, rfl, Nat.zero_le _⟩) (by omega) (by omega) ks hQ)
    · intro l o cnt i mst a C M1 D Q hl ho ha hC hl2 hl60 hF hD hK hQ
      obtain ⟨D, rfl⟩ : ∃ D', D = D' + 1 := ⟨D - 1, by omega⟩
      rw [pz_l (by omega), show 10 + l - 10 = l by omega, show 10 + l - 9 = l + 1 by omega] at hQ
      obtain ⟨⟨x3, x61, x5, x4, xo⟩, x2, x62⟩ := id hK
      have stop : ¬ (cnt = 1 ∧ a < n ∧ isg l (t a)) → Q 1 M1 := by
        intro q
        rw [if_neg q] at hQ
        exact hQ M1 (KR_t (by rw [List.append_nil]; exact hK))
      apply wp_X4_readChain_3_L36
      have hcnt : cnt = 1 ∨ (l = 2 ∧ cnt = 0) := by
        by_cases e2 : l = 2
        · have := hl2 e2; omega
        · exact .inl (hl60 e2).2.1
      rcases hcnt with rfl | ⟨e2, rfl⟩
      · by_cases q : a < n ∧ isg l (t a)
        · have hilt : i < mst ∧ mst < 61 := by
            by_cases e2 : l = 2
            · have := hl2 e2; omega
            · have := hl60 e2; omega
          have hc := ht a q.1
          rw [if_pos ⟨rfl, q⟩] at hQ
          refine ite_p (nI_ltI' (by omega) (by omega) hilt.1) (ite_n (by decide) (sign_ok hK.1 ha hn hl ht ?_))
          rw [decide_eq_true q]
          refine ite_n (by decide) ?_
          rw [x4, nn_at (n := a) (by omega), x61 a q.1, show nI l + 1 = nI (l + 1) from nI_1 _, show nI a + 1 = nI (a + 1) from nI_1 _, show nI i + 1 = nI (i + 1) from nI_1 _]
          refine ⟨vin_n (by omega) (by decide), ih.1 (l + 1) o (a + 1) C _ D _ (by omega) ho q.1 (by omega) (by omega) (by omega) (KS_at (a + 1) hK) (fun M2 h2 => ?_)⟩
          have gd := pzP (t := t) (n := n) (u := u) F (l + 1) o 0 (a + 1) q.1 (by omega)
          revert h2 gd hQ
          generalize pz t n u F (l + 1) o 0 (a + 1) = r
          obtain ⟨rb, ra, rs⟩ := r
          intro hQ h2 gd
          cases rb with
          | false =>
            obtain ⟨kx, z, hz, ez⟩ := h2.2 rfl
            have hQ : ∀ M2, KF M0 t n u ra M2 → Q 0 M2 := fun M2 h => hQ M2 (KR_f h)
            rw [ez, nn_at (n := z) (by omega), show nI z + 1 = nI (z + 1) from nI_1 _]
            by_cases qz : z < 60
            · exact ite_p (nI_ltI' (b := 60) (by omega) (by decide) qz) ⟨vin_n qz (by decide), stop0 (hQ _ (KF_wr _ kx qz))⟩
            · exact ite_n (nI_nltI (b := 60) (by omega) (by decide) (by omega)) (stop0 (hQ M2 ⟨kx, z, hz, ez⟩))
          | true =>
            have ks : KS M0 t n u ra (C ++ rs) M2 := h2.1 rfl
            have g1 : ra ≤ n := gd.2.1
            have g2 : rs.length ≤ ra - (a + 1) := gd.2.2.1
            have g3 : a + 1 < ra := ((gd.2.2.2.2 rfl).1 (by omega)).1
            have gl : (C ++ rs).length = C.length + rs.length := List.length_append
            rw [ks.2.1, nn_at (n := (C ++ rs).length) (by omega), show nI (C ++ rs).length + 1 = nI ((C ++ rs).length + 1) from nI_1 _]
            refine ite_p (nI_ltI' (b := 60) (by omega) (by decide) (by omega)) ⟨vin_n (by omega) (by decide), ?_⟩
            have kw := KS_wr (3, t a) ks
            have gw := gL2 (C ++ rs) (3, t a)
            refine ih.2.2 l o (if 10 + l = 12 then 0 else 1) (i + 1) mst ra ((C ++ rs) ++ [(3, t a)]) _ (D + 1) Q hl ho g1 (by omega) (fun e2 => ?_) (fun e2 => ?_) (by omega) (by omega) kw (fun M3 h3 => ?_)
            · have := hl2 e2
              rw [if_pos (by omega)]; omega
            · have := hl60 e2
              rw [if_neg (by omega)]; omega
            · have h4 : KR M0 t n u C (((pz t n u F (10 + l) o (if 10 + l = 12 then 0 else 1) ra)).1, ((pz t n u F (10 + l) o (if 10 + l = 12 then 0 else 1) ra)).2.1, rs ++ (3, t a) :: ((pz t n u F (10 + l) o (if 10 + l = 12 then 0 else 1) ra)).2.2) M3 := by
                rw [List.append_assoc] at h3
                have h5 := KR_app h3
                rw [List.append_assoc] at h5
                exact h5
              exact hQ M3 h4
        · have s1 := stop (fun z => q z.2)
          by_cases qi : nI i < nI mst
          · refine ite_p qi (ite_n (by decide) (sign_ok hK.1 ha hn hl ht ?_))
            rw [decide_eq_false q]
            exact ite_p rfl ⟨.inr rfl, s1⟩
          · exact ite_n qi ⟨.inr rfl, s1⟩
      · have h1 := hl2 e2
        exact ite_n (nI_nltI (by omega) (by omega) (by omega)) ⟨.inr rfl, stop (fun z => by omega)⟩
