/-! ===== what a text gives ===== -/
theorem div_m1 (x : Int32) : x / (-1) = -x := by
  apply Int32.toBitVec_inj.mp
  show BitVec.sdiv x.toBitVec (-1 : Int32).toBitVec = -x.toBitVec
  have e : (-1 : Int32).toBitVec = -1#32 := by decide
  rw [e]
  apply BitVec.eq_of_toInt_eq
  have e2 : (-1#32 : BitVec 32).toInt = -1 := by decide
  rw [BitVec.toInt_sdiv, e2, BitVec.toInt_neg, Int.tdiv_neg, Int.tdiv_one]
theorem rem_m1 (x : Int32) : x - x / (-1) * (-1) = 0 := by
  rw [div_m1]
  have e : -x * (-1) = x := by
    rw [Int32.neg_mul, Int32.mul_neg, Int32.mul_one, Int32.neg_neg]
  rw [e, Int32.sub_self]
def jn (c : Nat) (x y : Int32) : Int32 :=
  if c = 43 then x + y else if c = 45 then x - y else if c = 42 then x * y else if c = 47 then (if y = 0 then 0 else x / y) else if c = 37 then (if y = 0 then 0 else x - x / y * y) else
  if c = 60 then (if x < y then 1 else 0) else if c = 61 then (if x = y then 1 else 0) else if c = 62 then (if y < x then 1 else 0) else if c = 38 then (if x = 0 then 0 else if y = 0 then 0 else 1) else (if x = 0 then (if y = 0 then 0 else 1) else 1)
theorem joinedR_ok {xs : gX} {d : Nat} {M : Mem} {Q : Int32 → Mem → Prop} {c : Nat} {x y : Int32} (hc : isSign c) (hQ : Q (jn c x y) M) : MI xs d mX9_joined [.int (nI c), .int x, .int y] M Q := by
  apply wp_X9_joined
  rcases hc with rfl | rfl | rfl | rfl | rfl | rfl | rfl | rfl | rfl | rfl
  all_goals simp only [jn] at hQ
  all_goals simp at hQ
  all_goals repeat (first | refine ite_n (by decide) ?_ | refine ite_p (by decide) ?_)
  · split <;> rename_i h1
    · rw [if_pos h1] at hQ
      split <;> rename_i h2
      · rw [if_pos h2] at hQ; exact hQ
      · rw [if_neg h2] at hQ; exact hQ
    · rw [if_neg h1] at hQ; exact hQ
  · split <;> rename_i h1
    · rw [if_pos h1] at hQ; exact hQ
    · rw [if_neg h1] at hQ
      split <;> rename_i h2
      · rw [if_pos h2] at hQ; exact hQ
      · rw [if_neg h2] at hQ; exact hQ
  · split <;> rename_i h1
    · rw [if_pos h1] at hQ; exact hQ
    · rw [if_neg h1] at hQ; exact hQ
  · split <;> rename_i h1
    · rw [if_pos h1] at hQ; exact hQ
    · rw [if_neg h1] at hQ; exact hQ
  · split <;> rename_i h1
    · rw [if_pos h1] at hQ; exact hQ
    · rw [if_neg h1] at hQ; exact hQ
  · exact hQ
  · exact hQ
  · exact hQ
  · split <;> rename_i h1
    · rw [if_pos h1] at hQ; exact hQ
    · rw [if_neg h1] at hQ
      split <;> rename_i h2
      · subst h2; rw [div_m1] at hQ; exact hQ
      · exact ⟨h1, hQ⟩
  · split <;> rename_i h1
    · rw [if_pos h1] at hQ; exact hQ
    · rw [if_neg h1] at hQ
      split <;> rename_i h2
      · subst h2; rw [rem_m1] at hQ; exact hQ
      · exact ⟨h1, hQ⟩
theorem joinedC_ok {xs : gX} {d : Nat} {M : Mem} {Q : Int32 → Mem → Prop} {c : Nat} {x y : Int32} (hc : isSign c) (hQ : Q (jn c x y) M) : MI xs d mX1_joined [.int (nI c), .int x, .int y] M Q := by
  apply wp_X1_joined
  rcases hc with rfl | rfl | rfl | rfl | rfl | rfl | rfl | rfl | rfl | rfl
  all_goals simp only [jn] at hQ
  all_goals simp at hQ
  all_goals repeat (first | refine ite_n (by decide) ?_ | refine ite_p (by decide) ?_)
  · split <;> rename_i h1
    · rw [if_pos h1] at hQ
      split <;> rename_i h2
      · rw [if_pos h2] at hQ; exact hQ
      · rw [if_neg h2] at hQ; exact hQ
    · rw [if_neg h1] at hQ; exact hQ
  · split <;> rename_i h1
    · rw [if_pos h1] at hQ; exact hQ
    · rw [if_neg h1] at hQ
      split <;> rename_i h2
      · rw [if_pos h2] at hQ; exact hQ
      · rw [if_neg h2] at hQ; exact hQ
  · split <;> rename_i h1
    · rw [if_pos h1] at hQ; exact hQ
    · rw [if_neg h1] at hQ; exact hQ
  · split <;> rename_i h1
    · rw [if_pos h1] at hQ; exact hQ
    · rw [if_neg h1] at hQ; exact hQ
  · split <;> rename_i h1
    · rw [if_pos h1] at hQ; exact hQ
    · rw [if_neg h1] at hQ; exact hQ
  · exact hQ
  · exact hQ
  · exact hQ
  · split <;> rename_i h1
    · rw [if_pos h1] at hQ; exact hQ
    · rw [if_neg h1] at hQ; exact ⟨h1, hQ⟩
  · split <;> rename_i h1
    · rw [if_pos h1] at hQ; exact hQ
    · rw [if_neg h1] at hQ; exact ⟨h1, hQ⟩
def vn (u : Nat) (v x1 x2 x3 : Int32) : Int32 := if v = nI (nmC u 0) then x1 else if v = nI (nmC u 1) then x2 else x3
/-- the pile behind the first k steps: how high, and what lies on it -/
def evS (s : Nat → Int32) (u : Nat) (x1 x2 x3 : Int32) : Nat → Nat × (Nat → Int32)
  | 0 => (0, fun _ => 0)
  | k + 1 =>
    let r := evS s u x1 x2 x3 k
    if s (84 + 125 * u + 1 + 2 * k) = nI 0 then (r.1 + 1, upd r.2 r.1 (s (84 + 125 * u + 2 + 2 * k)))
    else if s (84 + 125 * u + 1 + 2 * k) = nI 1 then (r.1 + 1, upd r.2 r.1 (vn u (s (84 + 125 * u + 2 + 2 * k)) x1 x2 x3))
    else if s (84 + 125 * u + 1 + 2 * k) = nI 2 then (r.1, upd r.2 (r.1 - 1) (if r.2 (r.1 - 1) = 0 then 1 else 0))
    else (r.1 - 1, upd r.2 (r.1 - 2) (jn (s (84 + 125 * u + 2 + 2 * k)).toNatClampNeg (r.2 (r.1 - 2)) (r.2 (r.1 - 1))))
def evT (s : Nat → Int32) (u : Nat) (x1 x2 x3 : Int32) : Int32 := (evS s u x1 x2 x3 (N s (84 + 125 * u))).2 0
theorem ev_num {s : Nat → Int32} {u k : Nat} {x1 x2 x3 : Int32} (h : s (84 + 125 * u + 1 + 2 * k) = nI 0) : evS s u x1 x2 x3 (k + 1) = ((evS s u x1 x2 x3 k).1 + 1, upd (evS s u x1 x2 x3 k).2 (evS s u x1 x2 x3 k).1 (s (84 + 125 * u + 2 + 2 * k))) := by
  show (if _ then _ else _) = _
  rw [if_pos h]
theorem ev_name {s : Nat → Int32} {u k : Nat} {x1 x2 x3 : Int32} (h : s (84 + 125 * u + 1 + 2 * k) = nI 1) : evS s u x1 x2 x3 (k + 1) = ((evS s u x1 x2 x3 k).1 + 1, upd (evS s u x1 x2 x3 k).2 (evS s u x1 x2 x3 k).1 (vn u (s (84 + 125 * u + 2 + 2 * k)) x1 x2 x3)) := by
  show (if _ then _ else if _ then _ else _) = _
  rw [if_neg (by rw [h]; decide), if_pos h]
theorem ev_not {s : Nat → Int32} {u k : Nat} {x1 x2 x3 : Int32} (h : s (84 + 125 * u + 1 + 2 * k) = nI 2) : evS s u x1 x2 x3 (k + 1) = ((evS s u x1 x2 x3 k).1, upd (evS s u x1 x2 x3 k).2 ((evS s u x1 x2 x3 k).1 - 1) (if (evS s u x1 x2 x3 k).2 ((evS s u x1 x2 x3 k).1 - 1) = 0 then 1 else 0)) := by
  show (if _ then _ else if _ then _ else if _ then _ else _) = _
  rw [if_neg (by rw [h]; decide), if_neg (by rw [h]; decide), if_pos h]
theorem ev_sign {s : Nat → Int32} {u k : Nat} {x1 x2 x3 : Int32} (h : s (84 + 125 * u + 1 + 2 * k) = nI 3) : evS s u x1 x2 x3 (k + 1) = ((evS s u x1 x2 x3 k).1 - 1, upd (evS s u x1 x2 x3 k).2 ((evS s u x1 x2 x3 k).1 - 2) (jn (s (84 + 125 * u + 2 + 2 * k)).toNatClampNeg ((evS s u x1 x2 x3 k).2 ((evS s u x1 x2 x3 k).1 - 2)) ((evS s u x1 x2 x3 k).2 ((evS s u x1 x2 x3 k).1 - 1)))) := by
  show (if _ then _ else if _ then _ else if _ then _ else _) = _
  rw [if_neg (by rw [h]; decide), if_neg (by rw [h]; decide), if_neg (by rw [h]; decide)]
theorem ev_top {s : Nat → Int32} {u n : Nat} {x1 x2 x3 : Int32} {D : Nat → Nat} (h0 : D 0 = 0) (hD : ∀ k, k < n → (s (84 + 125 * u + 1 + 2 * k) = nI 0 ∨ s (84 + 125 * u + 1 + 2 * k) = nI 1 → D (k + 1) = D k + 1) ∧ (s (84 + 125 * u + 1 + 2 * k) = nI 2 → 1 ≤ D k ∧ D (k + 1) = D k) ∧ (s (84 + 125 * u + 1 + 2 * k) = nI 3 → 2 ≤ D k ∧ D (k + 1) + 1 = D k))
    (hs : ∀ k, k < n → s (84 + 125 * u + 1 + 2 * k) = nI 0 ∨ s (84 + 125 * u + 1 + 2 * k) = nI 1 ∨ s (84 + 125 * u + 1 + 2 * k) = nI 2 ∨ s (84 + 125 * u + 1 + 2 * k) = nI 3) : ∀ k, k ≤ n → (evS s u x1 x2 x3 k).1 = D k ∧ D k ≤ k := by
  intro k
  induction k with
  | zero => intro _; exact ⟨h0.symm, by omega⟩
  | succ k ih =>
    intro hk
    obtain ⟨i1, i2⟩ := ih (by omega)
    obtain ⟨d1, d2, d3⟩ := hD k (by omega)
    rcases hs k (by omega) with h | h | h | h
    · rw [ev_num h]
      have := d1 (.inl h)
      refine ⟨?_, by omega⟩
      show (evS s u x1 x2 x3 k).1 + 1 = _
      omega
    · rw [ev_name h]
      have := d1 (.inr h)
      refine ⟨?_, by omega⟩
      show (evS s u x1 x2 x3 k).1 + 1 = _
      omega
    · rw [ev_not h]
      have := d2 h
      refine ⟨?_, by omega⟩
      show (evS s u x1 x2 x3 k).1 = _
      omega
    · rw [ev_sign h]
      have := d3 h
      refine ⟨?_, by omega⟩
      show (evS s u x1 x2 x3 k).1 - 1 = _
      omega
theorem stepR_kind {u : Nat} {c what v : Int32} (h : stepR u c what v) : what = nI 0 ∨ what = nI 1 ∨ what = nI 2 ∨ what = nI 3 := by
  rcases h with ⟨h, -⟩ | ⟨h, -⟩ | ⟨h, -⟩ | ⟨h, -⟩
  · exact .inl h
  · exact .inr (.inl h)
  · exact .inr (.inr (.inl h))
  · exact .inr (.inr (.inr h))
theorem nI_neg_ne {x : Nat} {n : Int32} (hx : x < 2 ^ 30) (hn : n.toInt < 0) : ¬ nI x = n := by
  intro e
  rw [← e, nI_toInt (by omega)] at hn
  omega
theorem nI_neg_nlt {x : Nat} {n : Int32} (hx : x < 2 ^ 30) (hn : n.toInt ≤ 0) : ¬ nI x < n := by
  rw [Int32.lt_iff_toInt_lt, nI_toInt (by omega)]
  omega
theorem value29_ok {xs : gX} {d : Nat} {M : Mem} {Q : Int32 → Mem → Prop} {s : Nat → Int32} {x1 x2 x3 : Int32} (hL : LAW (M.1 29 2) (M.1 29 3) (M.1 30) 0 s) (hst : ¬ s (84 + 125 * 0) = 0) (hQ : ∀ M1, FR [31] M M1 → Q (evT s 0 x1 x2 x3) M1) : MI xs (d + 1) mX1_value [.ref 29, .int x1, .int x2, .int x3] M Q := by
  rcases hL.2 with ⟨e, -⟩ | ⟨n, n1, n60, hn, -, hsz, hstep, D, d0, dn, hD⟩
  · exact absurd e hst
  have htop := ev_top (s := s) (u := 0) (x1 := x1) (x2 := x2) (x3 := x3) d0 hD (fun k hk => stepR_kind (hstep k hk))
  have key : ∀ m k M1, k + m = n → FR [31] M M1 → (∀ j, j < D k → M1.1 31 j = (evS s 0 x1 x2 x3 k).2 j) → GW xs (d + 1) mX1_value 6 [(0, .ref 29), (1, .int x1), (2, .int x2), (3, .int x3), (4, .int (nI (D k))), (5, .int (nI k))] [] M1 (QI Q) := by
    intro m
    induction m with
    | zero =>
      intro k M1 hk hfr hj
      have e : k = n := by omega
      subst e
      apply wp_X1_value_29_L6
      rw [hfr.2 29 (by decide), hsz]
      refine ite_n (nI_nltI (by omega) (by omega) (by omega)) ?_
      rw [hj 0 (by omega)]
      have := hQ M1 hfr
      unfold evT at this
      rw [show N s (84 + 125 * 0) = k by unfold N; rw [hn, nn_at (by omega)]] at this
      exact this
    | succ m ih =>
      intro k M1 hk hfr hj
      obtain ⟨t1, t2⟩ := htop k (by omega)
      obtain ⟨d1, d2, d3⟩ := hD k (by omega)
      have hkn : k < n := by omega
      apply wp_X1_value_29_L6
      rw [hfr.2 29 (by decide), hfr.2 30 (by decide), hsz]
      refine ite_p (nI_ltI' (by omega) (by omega) hkn) ⟨vin_n (by omega) (by decide), ?_⟩
      rw [nn_at (by omega), nI_1]
      rcases hstep k hkn with ⟨hw, x, hx, hv, hc⟩ | ⟨hw, i, hi, hv, hc⟩ | ⟨hw, hc⟩ | ⟨hw, x, hx, hv, hc⟩
      · have hd := d1 (.inl hw)
        rw [hc]
        refine ite_n (nI_neg_ne (by omega) (by decide)) (ite_n (nI_neg_nlt (by omega) (by decide)) (ite_p (lit_lt (n := 60) rfl (by omega) (by decide)) (ite_n (nI_lt0 (by omega)) ⟨vin_n (by omega) (by decide), ?_⟩)))
        rw [nn_at (by omega), nI_1, ← hd]
        refine ih (k + 1) _ (by omega) (hfr.mw (by decide)) (fun j hjj => ?_)
        rw [mw_at, ev_num hw, hv]
        show upd (M1.1 31) (D k) (nI x) j = upd (evS s 0 x1 x2 x3 k).2 (evS s 0 x1 x2 x3 k).1 (nI x) j
        rw [t1]
        by_cases e : j = D k
        · subst e; rw [upd_at, upd_at]
        · rw [upd_ne _ _ e, upd_ne _ _ e]; exact hj j (by omega)
      · have hd := d1 (.inr hw)
        have push : ∀ y, vn 0 (s (84 + 125 * 0 + 2 + 2 * k)) x1 x2 x3 = y → GW xs (d + 1) mX1_value 6 [(0, .ref 29), (1, .int x1), (2, .int x2), (3, .int x3), (4, .int (nI (D k + 1))), (5, .int (nI (k + 1)))] [] (mw M1 31 (D k) y) (QI Q) := by
          intro y hy
          rw [← hd]
          refine ih (k + 1) _ (by omega) (hfr.mw (by decide)) (fun j hjj => ?_)
          rw [mw_at, ev_name hw, hy]
          show upd (M1.1 31) (D k) y j = upd (evS s 0 x1 x2 x3 k).2 (evS s 0 x1 x2 x3 k).1 y j
          rw [t1]
          by_cases e : j = D k
          · subst e; rw [upd_at, upd_at]
          · rw [upd_ne _ _ e, upd_ne _ _ e]; exact hj j (by omega)
        rw [hc]
        rcases (show i = 0 ∨ i = 1 ∨ i = 2 by omega) with rfl | rfl | rfl
        · refine ite_n (by decide) (ite_n (by decide) (ite_p (lit_lt (n := 60) rfl (by omega) (by decide)) (ite_p (by decide) (ite_p (by decide) ⟨vin_n (by omega) (by decide), ?_⟩))))
          rw [nn_at (by omega), nI_1]
          exact push x1 (by rw [hv]; rfl)
        · refine ite_n (by decide) (ite_n (by decide) (ite_p (lit_lt (n := 60) rfl (by omega) (by decide)) (ite_p (by decide) (ite_n (by decide) (ite_p (by decide) ⟨vin_n (by omega) (by decide), ?_⟩)))))
          rw [nn_at (by omega), nI_1]
          exact push x2 (by rw [hv]; rfl)
        · refine ite_n (by decide) (ite_n (by decide) (ite_p (lit_lt (n := 60) rfl (by omega) (by decide)) (ite_p (by decide) (ite_n (by decide) (ite_n (by decide) ⟨vin_n (by omega) (by decide), ?_⟩)))))
          rw [nn_at (by omega), nI_1]
          exact push x3 (by rw [hv]; rfl)
      · obtain ⟨g1, g2⟩ := d2 hw
        rw [hc]
        refine ite_p (by decide) (ite_p (nI_ltI' (a := 0) (by omega) (by omega) g1) ?_)
        rw [show nI (D k) - 1 = nI (D k - 1) from pk_sub (a := D k) (b := 1) g1, nn_at (by omega), hj (D k - 1) (by omega)]
        refine ⟨vin_n (by omega) (by decide), ?_⟩
        have h := ih (k + 1) (mw M1 31 (D k - 1) (if (evS s 0 x1 x2 x3 k).2 (D k - 1) = 0 then 1 else 0)) (by omega) (hfr.mw (by decide)) (fun j hjj => ?_)
        · rw [g2] at h
          split <;> rename_i q
          · rw [if_pos q] at h; exact h
          · rw [if_neg q] at h; exact h
        · rw [mw_at, ev_not hw, t1]
          show _ = upd (evS s 0 x1 x2 x3 k).2 (D k - 1) _ j
          by_cases e : j = D k - 1
          · subst e; rw [upd_at, upd_at]
          · rw [upd_ne _ _ e, upd_ne _ _ e]; exact hj j (by omega)
      · obtain ⟨g1, g2⟩ := d3 hw
        obtain ⟨t, ht⟩ : ∃ t, D k = t + 2 := ⟨D k - 2, by omega⟩
        have c1 : ¬ (-nI x) = (-33) ∧ (-nI x) < (-3) := by
          rcases hx with rfl | rfl | rfl | rfl | rfl | rfl | rfl | rfl | rfl | rfl <;> exact ⟨by decide, by decide⟩
        rw [hc]
        refine ite_n c1.1 (ite_p c1.2 (ite_p (nI_ltI' (a := 1) (by omega) (by omega) (by omega)) ?_))
        rw [ht, show nI (t + 2) + -1 = nI (t + 1) from pk_m1 (t + 1), nI_pred, nn_at (by omega), nn_at (by omega), Int32.neg_neg]
        refine ⟨vin_n (by omega) (by decide), vin_n (by omega) (by decide), ?_⟩
        refine joinedC_ok hx ?_
        have h := ih (k + 1) (mw M1 31 t (jn x (M1.1 31 t) (M1.1 31 (t + 1)))) (by omega) (hfr.mw (by decide)) (fun j hjj => ?_)
        · rw [show D (k + 1) = t + 1 by omega] at h; exact h
        · rw [mw_at, ev_sign hw, t1, ht, hv, nn_at (by rcases hx with rfl | rfl | rfl | rfl | rfl | rfl | rfl | rfl | rfl | rfl <;> omega)]
          show _ = upd (evS s 0 x1 x2 x3 k).2 (t + 2 - 2) (jn x ((evS s 0 x1 x2 x3 k).2 (t + 2 - 2)) ((evS s 0 x1 x2 x3 k).2 (t + 2 - 1))) j
          rw [show t + 2 - 2 = t by omega, show t + 2 - 1 = t + 1 by omega, hj t (by omega), hj (t + 1) (by omega)]
          by_cases e : j = t
          · subst e; rw [upd_at, upd_at]
          · rw [upd_ne _ _ e, upd_ne _ _ e]; exact hj j (by omega)
  apply wp_X1_value_29
  have h := key n 0 M (by omega) FR.rfl' (fun j hj => by omega)
  rw [d0] at h
  exact h
theorem value32_ok {xs : gX} {d : Nat} {M : Mem} {Q : Int32 → Mem → Prop} {s : Nat → Int32} {x1 x2 x3 : Int32} (hL : LAW (M.1 32 2) (M.1 32 3) (M.1 33) 1 s) (hst : ¬ s (84 + 125 * 1) = 0) (hQ : ∀ M1, FR [34] M M1 → Q (evT s 1 x1 x2 x3) M1) : MI xs (d + 1) mX1_value [.ref 32, .int x1, .int x2, .int x3] M Q := by
  rcases hL.2 with ⟨e, -⟩ | ⟨n, n1, n60, hn, -, hsz, hstep, D, d0, dn, hD⟩
  · exact absurd e hst
  have htop := ev_top (s := s) (u := 1) (x1 := x1) (x2 := x2) (x3 := x3) d0 hD (fun k hk => stepR_kind (hstep k hk))
  have key : ∀ m k M1, k + m = n → FR [34] M M1 → (∀ j, j < D k → M1.1 34 j = (evS s 1 x1 x2 x3 k).2 j) → GW xs (d + 1) mX1_value 6 [(0, .ref 32), (1, .int x1), (2, .int x2), (3, .int x3), (4, .int (nI (D k))), (5, .int (nI k))] [] M1 (QI Q) := by
    intro m
    induction m with
    | zero =>
      intro k M1 hk hfr hj
      have e : k = n := by omega
      subst e
      apply wp_X1_value_32_L6
      rw [hfr.2 32 (by decide), hsz]
      refine ite_n (nI_nltI (by omega) (by omega) (by omega)) ?_
      rw [hj 0 (by omega)]
      have := hQ M1 hfr
      unfold evT at this
      rw [show N s (84 + 125 * 1) = k by unfold N; rw [hn, nn_at (by omega)]] at this
      exact this
    | succ m ih =>
      intro k M1 hk hfr hj
      obtain ⟨t1, t2⟩ := htop k (by omega)
      obtain ⟨d1, d2, d3⟩ := hD k (by omega)
      have hkn : k < n := by omega
      apply wp_X1_value_32_L6
      rw [hfr.2 32 (by decide), hfr.2 33 (by decide), hsz]
      refine ite_p (nI_ltI' (by omega) (by omega) hkn) ⟨vin_n (by omega) (by decide), ?_⟩
      rw [nn_at (by omega), nI_1]
      rcases hstep k hkn with ⟨hw, x, hx, hv, hc⟩ | ⟨hw, i, hi, hv, hc⟩ | ⟨hw, hc⟩ | ⟨hw, x, hx, hv, hc⟩
      · have hd := d1 (.inl hw)
        rw [hc]
        refine ite_n (nI_neg_ne (by omega) (by decide)) (ite_n (nI_neg_nlt (by omega) (by decide)) (ite_p (lit_lt (n := 60) rfl (by omega) (by decide)) (ite_n (nI_lt0 (by omega)) ⟨vin_n (by omega) (by decide), ?_⟩)))
        rw [nn_at (by omega), nI_1, ← hd]
        refine ih (k + 1) _ (by omega) (hfr.mw (by decide)) (fun j hjj => ?_)
        rw [mw_at, ev_num hw, hv]
        show upd (M1.1 34) (D k) (nI x) j = upd (evS s 1 x1 x2 x3 k).2 (evS s 1 x1 x2 x3 k).1 (nI x) j
        rw [t1]
        by_cases e : j = D k
        · subst e; rw [upd_at, upd_at]
        · rw [upd_ne _ _ e, upd_ne _ _ e]; exact hj j (by omega)
      · have hd := d1 (.inr hw)
        have push : ∀ y, vn 1 (s (84 + 125 * 1 + 2 + 2 * k)) x1 x2 x3 = y → GW xs (d + 1) mX1_value 6 [(0, .ref 32), (1, .int x1), (2, .int x2), (3, .int x3), (4, .int (nI (D k + 1))), (5, .int (nI (k + 1)))] [] (mw M1 34 (D k) y) (QI Q) := by
          intro y hy
          rw [← hd]
          refine ih (k + 1) _ (by omega) (hfr.mw (by decide)) (fun j hjj => ?_)
          rw [mw_at, ev_name hw, hy]
          show upd (M1.1 34) (D k) y j = upd (evS s 1 x1 x2 x3 k).2 (evS s 1 x1 x2 x3 k).1 y j
          rw [t1]
          by_cases e : j = D k
          · subst e; rw [upd_at, upd_at]
          · rw [upd_ne _ _ e, upd_ne _ _ e]; exact hj j (by omega)
        rw [hc]
        rcases (show i = 0 ∨ i = 1 ∨ i = 2 by omega) with rfl | rfl | rfl
        · refine ite_n (by decide) (ite_n (by decide) (ite_p (lit_lt (n := 60) rfl (by omega) (by decide)) (ite_p (by decide) (ite_p (by decide) ⟨vin_n (by omega) (by decide), ?_⟩))))
          rw [nn_at (by omega), nI_1]
          exact push x1 (by rw [hv]; rfl)
        · refine ite_n (by decide) (ite_n (by decide) (ite_p (lit_lt (n := 60) rfl (by omega) (by decide)) (ite_p (by decide) (ite_n (by decide) (ite_p (by decide) ⟨vin_n (by omega) (by decide), ?_⟩)))))
          rw [nn_at (by omega), nI_1]
          exact push x2 (by rw [hv]; rfl)
        · refine ite_n (by decide) (ite_n (by decide) (ite_p (lit_lt (n := 60) rfl (by omega) (by decide)) (ite_p (by decide) (ite_n (by decide) (ite_n (by decide) ⟨vin_n (by omega) (by decide), ?_⟩)))))
          rw [nn_at (by omega), nI_1]
          exact push x3 (by rw [hv]; rfl)
      · obtain ⟨g1, g2⟩ := d2 hw
        rw [hc]
        refine ite_p (by decide) (ite_p (nI_ltI' (a := 0) (by omega) (by omega) g1) ?_)
        rw [show nI (D k) - 1 = nI (D k - 1) from pk_sub (a := D k) (b := 1) g1, nn_at (by omega), hj (D k - 1) (by omega)]
        refine ⟨vin_n (by omega) (by decide), ?_⟩
        have h := ih (k + 1) (mw M1 34 (D k - 1) (if (evS s 1 x1 x2 x3 k).2 (D k - 1) = 0 then 1 else 0)) (by omega) (hfr.mw (by decide)) (fun j hjj => ?_)
        · rw [g2] at h
          split <;> rename_i q
          · rw [if_pos q] at h; exact h
          · rw [if_neg q] at h; exact h
        · rw [mw_at, ev_not hw, t1]
          show _ = upd (evS s 1 x1 x2 x3 k).2 (D k - 1) _ j
          by_cases e : j = D k - 1
          · subst e; rw [upd_at, upd_at]
          · rw [upd_ne _ _ e, upd_ne _ _ e]; exact hj j (by omega)
      · obtain ⟨g1, g2⟩ := d3 hw
        obtain ⟨t, ht⟩ : ∃ t, D k = t + 2 := ⟨D k - 2, by omega⟩
        have c1 : ¬ (-nI x) = (-33) ∧ (-nI x) < (-3) := by
          rcases hx with rfl | rfl | rfl | rfl | rfl | rfl | rfl | rfl | rfl | rfl <;> exact ⟨by decide, by decide⟩
        rw [hc]
        refine ite_n c1.1 (ite_p c1.2 (ite_p (nI_ltI' (a := 1) (by omega) (by omega) (by omega)) ?_))
        rw [ht, show nI (t + 2) + -1 = nI (t + 1) from pk_m1 (t + 1), nI_pred, nn_at (by omega), nn_at (by omega), Int32.neg_neg]
        refine ⟨vin_n (by omega) (by decide), vin_n (by omega) (by decide), ?_⟩
        refine joinedC_ok hx ?_
        have h := ih (k + 1) (mw M1 34 t (jn x (M1.1 34 t) (M1.1 34 (t + 1)))) (by omega) (hfr.mw (by decide)) (fun j hjj => ?_)
        · rw [show D (k + 1) = t + 1 by omega] at h; exact h
        · rw [mw_at, ev_sign hw, t1, ht, hv, nn_at (by rcases hx with rfl | rfl | rfl | rfl | rfl | rfl | rfl | rfl | rfl | rfl <;> omega)]
          show _ = upd (evS s 1 x1 x2 x3 k).2 (t + 2 - 2) (jn x ((evS s 1 x1 x2 x3 k).2 (t + 2 - 2)) ((evS s 1 x1 x2 x3 k).2 (t + 2 - 1))) j
          rw [show t + 2 - 2 = t by omega, show t + 2 - 1 = t + 1 by omega, hj t (by omega), hj (t + 1) (by omega)]
          by_cases e : j = t
          · subst e; rw [upd_at, upd_at]
          · rw [upd_ne _ _ e, upd_ne _ _ e]; exact hj j (by omega)
  apply wp_X1_value_32
  have h := key n 0 M (by omega) FR.rfl' (fun j hj => by omega)
  rw [d0] at h
  exact h
/-- the reference works a text out -/
theorem worked_ok {xs : gX} {d : Nat} {M : Mem} {Q : Int32 → Mem → Prop} {s : Nat → Int32} {sz sd : Int32} {cd : Nat → Int32} {u : Nat} {x1 x2 x3 : Int32} (hu : u < 2) (hs : M.1 65 = s) (hL : LAW sz sd cd u s) (hst : ¬ s (84 + 125 * u) = 0) (h1 : M.1 70 (nmC u 0) = x1) (h2 : M.1 70 (nmC u 1) = x2) (h3 : M.1 70 (nmC u 2) = x3) (hQ : ∀ M1, FR [71] M M1 → Q (evT s u x1 x2 x3) M1) : MI xs (d + 1) mX9_worked [.ref 64, .int (nI u)] M Q := by
  rcases hL.2 with ⟨e, -⟩ | ⟨n, n1, n60, hn, -, hsz, hstep, D, d0, dn, hD⟩
  · exact absurd e hst
  have htop := ev_top (s := s) (u := u) (x1 := x1) (x2 := x2) (x3 := x3) d0 hD (fun k hk => stepR_kind (hstep k hk))
  have key : ∀ m k M1, k + m = n → FR [71] M M1 → (∀ j, j < D k → M1.1 71 j = (evS s u x1 x2 x3 k).2 j) → GW xs (d + 1) mX9_worked 13 [(0, .ref 64), (1, .int (nI u)), (2, .int (nI (84 + 125 * u))), (3, .int (nI (D k))), (4, .int (nI k))] [] M1 (QI Q) := by
    intro m
    induction m with
    | zero =>
      intro k M1 hk hfr hj
      have e : k = n := by omega
      subst e
      apply wp_X9_worked_64_L13
      rw [hfr.2 65 (by decide), hs, nn_at (by omega), hn]
      refine ⟨vin_n (by omega) (by decide), ite_n (nI_nltI (by omega) (by omega) (by omega)) ?_⟩
      rw [hj 0 (by omega)]
      have := hQ M1 hfr
      unfold evT at this
      rw [show N s (84 + 125 * u) = k by unfold N; rw [hn, nn_at (by omega)]] at this
      exact this
    | succ m ih =>
      intro k M1 hk hfr hj
      obtain ⟨t1, t2⟩ := htop k (by omega)
      obtain ⟨d1, d2, d3⟩ := hD k (by omega)
      have hkn : k < n := by omega
      apply wp_X9_worked_64_L13
      have z1 : (nI (84 + 125 * u) + 1) + (2 * nI k) = nI (84 + 125 * u + 1 + 2 * k) := by simp only [i_lit, nI_mul, nI_add]
      have z2 : (nI (84 + 125 * u) + 2) + (2 * nI k) = nI (84 + 125 * u + 2 + 2 * k) := by simp only [i_lit, nI_mul, nI_add]
      rw [hfr.2 65 (by decide), hfr.2 70 (by decide), hs, z1, z2, nn_at (n := 84 + 125 * u) (by omega), nn_at (n := 84 + 125 * u + 1 + 2 * k) (by omega), nn_at (n := 84 + 125 * u + 2 + 2 * k) (by omega), nn_at (n := D k) (by omega), hn]
      simp only [nI_1]
      refine ⟨vin_n (by omega) (by decide), ite_p (nI_ltI' (by omega) (by omega) hkn) ⟨vin_n (by omega) (by decide), vin_n (by omega) (by decide), ?_⟩⟩
      rcases hstep k hkn with ⟨hw, x, hx, hv, hc⟩ | ⟨hw, i, hi, hv, hc⟩ | ⟨hw, hc⟩ | ⟨hw, x, hx, hv, hc⟩
      · have hd := d1 (.inl hw)
        refine ite_p hw ⟨vin_n (by omega) (by decide), ?_⟩
        rw [← hd]
        refine ih (k + 1) _ (by omega) (hfr.mw (by decide)) (fun j hjj => ?_)
        rw [mw_at, ev_num hw]
        show upd (M1.1 71) (D k) _ j = upd (evS s u x1 x2 x3 k).2 (evS s u x1 x2 x3 k).1 _ j
        rw [t1]
        by_cases e : j = D k
        · subst e; rw [upd_at, upd_at]
        · rw [upd_ne _ _ e, upd_ne _ _ e]; exact hj j (by omega)
      · have hd := d1 (.inr hw)
        have hb : nmC u i < 128 ∧ M.1 70 (nmC u i) = vn u (nI (nmC u i)) x1 x2 x3 := by
          rcases (show u = 0 ∨ u = 1 by omega) with rfl | rfl <;> rcases (show i = 0 ∨ i = 1 ∨ i = 2 by omega) with rfl | rfl | rfl
          · exact ⟨by decide, h1⟩
          · exact ⟨by decide, h2⟩
          · exact ⟨by decide, h3⟩
          · exact ⟨by decide, h1⟩
          · exact ⟨by decide, h2⟩
          · exact ⟨by decide, h3⟩
        refine ite_n (by rw [hw]; decide) (ite_p hw ?_)
        rw [hv, nn_at (n := nmC u i) (by omega), hb.2, ← hd]
        refine ⟨vin_n hb.1 (by decide), vin_n (by omega) (by decide), ?_⟩
        refine ih (k + 1) _ (by omega) (hfr.mw (by decide)) (fun j hjj => ?_)
        rw [mw_at, ev_name hw, hv]
        show upd (M1.1 71) (D k) _ j = upd (evS s u x1 x2 x3 k).2 (evS s u x1 x2 x3 k).1 _ j
        rw [t1]
        by_cases e : j = D k
        · subst e; rw [upd_at, upd_at]
        · rw [upd_ne _ _ e, upd_ne _ _ e]; exact hj j (by omega)
      · obtain ⟨g1, g2⟩ := d2 hw
        refine ite_n (by rw [hw]; decide) (ite_n (by rw [hw]; decide) (ite_p hw ?_))
        rw [show nI (D k) - 1 = nI (D k - 1) from pk_sub (a := D k) (b := 1) g1, nn_at (n := D k - 1) (by omega), hj (D k - 1) (by omega)]
        refine ⟨vin_n (by omega) (by decide), ?_⟩
        have h := ih (k + 1) (mw M1 71 (D k - 1) (if (evS s u x1 x2 x3 k).2 (D k - 1) = 0 then 1 else 0)) (by omega) (hfr.mw (by decide)) (fun j hjj => ?_)
        · rw [g2] at h
          split <;> rename_i q
          · rw [if_pos q] at h; exact h
          · rw [if_neg q] at h; exact h
        · rw [mw_at, ev_not hw, t1]
          show _ = upd (evS s u x1 x2 x3 k).2 (D k - 1) _ j
          by_cases e : j = D k - 1
          · subst e; rw [upd_at, upd_at]
          · rw [upd_ne _ _ e, upd_ne _ _ e]; exact hj j (by omega)
      · obtain ⟨g1, g2⟩ := d3 hw
        obtain ⟨t, ht⟩ : ∃ t, D k = t + 2 := ⟨D k - 2, by omega⟩
        refine ite_n (by rw [hw]; decide) (ite_n (by rw [hw]; decide) (ite_n (by rw [hw]; decide) ?_))
        rw [ht, show nI (t + 2) + -1 = nI (t + 1) from pk_m1 (t + 1), nI_pred, nn_at (n := t) (by omega), nn_at (n := t + 1) (by omega), hv]
        refine ⟨vin_n (by omega) (by decide), vin_n (by omega) (by decide), ?_⟩
        refine joinedR_ok hx ?_
        have h := ih (k + 1) (mw M1 71 t (jn x (M1.1 71 t) (M1.1 71 (t + 1)))) (by omega) (hfr.mw (by decide)) (fun j hjj => ?_)
        · rw [show D (k + 1) = t + 1 by omega] at h; exact h
        · rw [mw_at, ev_sign hw, t1, ht, hv, nn_at (by rcases hx with rfl | rfl | rfl | rfl | rfl | rfl | rfl | rfl | rfl | rfl <;> omega)]
          show _ = upd (evS s u x1 x2 x3 k).2 (t + 2 - 2) (jn x ((evS s u x1 x2 x3 k).2 (t + 2 - 2)) ((evS s u x1 x2 x3 k).2 (t + 2 - 1))) j
          rw [show t + 2 - 2 = t by omega, show t + 2 - 1 = t + 1 by omega, hj t (by omega), hj (t + 1) (by omega)]
          by_cases e : j = t
          · subst e; rw [upd_at, upd_at]
          · rw [upd_ne _ _ e, upd_ne _ _ e]; exact hj j (by omega)
  apply wp_X9_worked_64
  have z : 84 + (125 * nI u) = nI (84 + 125 * u) := by simp only [i_lit, nI_mul, nI_add]
  rw [z]
  have h := key n 0 M (by omega) FR.rfl' (fun j hj => by omega)
  rw [d0] at h
  exact h
