/-! ===== which days a paper can mean ===== -/
abbrev F1 (M M1 : Mem) : Prop := ∀ k, k ∉ scr → M1.1 k = M.1 k
theorem F1.rfl' {M : Mem} : F1 M M := fun _ _ => rfl
theorem F1.trans' {M M1 M2 : Mem} (h1 : F1 M M1) (h2 : F1 M1 M2) : F1 M M2 := fun k hk => (h2 k hk).trans (h1 k hk)
theorem F1s65 {M M1 : Mem} (h : F1 M M1) : M1.1 65 = M.1 65 := h 65 (by decide)
theorem F1fr {M M1 : Mem} (h : F1 M M1) : FR scr (M.1, M1.2) M1 := ⟨rfl, h⟩
theorem IWM_2 {M : Mem} (hI : IWM M) (x : Nat → Nat → Int64) : IWM (M.1, x) := hI
theorem F1_6 {M M1 : Mem} (hI : IWM M) (h1 : F1 M M1) (k : Nat) (x : Int32) : IWM (mw M1 6 k x) := by
  refine IWM_of hI (fun q hq => ?_)
  rw [mw_ne _ _ _ (fun e => hq (by rw [e]; decide)), h1 q (fun e => hq (List.mem_cons_of_mem _ (List.mem_cons_of_mem _ e)))]
theorem F1_65_6 {M M1 : Mem} (h1 : F1 M M1) (k : Nat) (x : Int32) : (mw M1 6 k x).1 65 = M.1 65 := by rw [mw_ne _ _ _ (by decide), (F1s65 h1)]
theorem Inv_err3 {M M1 M2 : Mem} (hI : Inv M) (k : Nat) (h1 : F1 M M1) (h2 : F1 (mw M1 6 k (M1.1 6 k + 1)) M2) : Inv (mw M2 67 k (M2.1 67 k + 1)) := by
  refine Inv_scr (Inv_err (Inv_scr hI h1) k) (fun q hq => ?_)
  have e := h2 q hq
  by_cases h : q = 67
  · subst h
    rw [mw_at, mw_at, e]
  · rw [mw_ne _ _ _ h, mw_ne _ _ _ h, e]
def anyN (s : Nat → Int32) (a y : Nat) : Nat → Bool
  | 0 => false
  | c + 1 => anyN s a y c || decide (nm s c y = a)
theorem anyN_iff {s : Nat → Int32} {a y : Nat} : ∀ {n : Nat}, anyN s a y n = true ↔ ∃ c, c < n ∧ nm s c y = a := by
  intro n
  induction n with
  | zero => simp [anyN]
  | succ n ih =>
    simp only [anyN, Bool.or_eq_true, decide_eq_true_eq, ih]
    constructor
    · rintro (⟨c, h1, h2⟩ | h)
      · exact ⟨c, by omega, h2⟩
      · exact ⟨n, by omega, h⟩
    · rintro ⟨c, h1, h2⟩
      by_cases e : c = n
      · subst e; exact .inr h2
      · exact .inl ⟨c, by omega, h2⟩
/-- the years of a name, from y on -/
def mL (s : Nat → Int32) (a : Nat) : Nat → Nat → List Nat
  | 0, _ => []
  | m + 1, y => if anyN s a y 4 = true then y :: mL s a m (y + 1) else mL s a m (y + 1)
theorem mL_s (s : Nat → Int32) (a m y : Nat) : mL s a (m + 1) y = if anyN s a y 4 = true then y :: mL s a m (y + 1) else mL s a m (y + 1) := rfl
theorem mL_nil {s : Nat → Int32} {a : Nat} : ∀ m y, (∀ z, y ≤ z → z < y + m → ¬ anyN s a z 4 = true) → mL s a m y = [] := by
  intro m
  induction m with
  | zero => intro y _; rfl
  | succ m ih =>
    intro y h
    unfold mL
    rw [if_neg (h y (by omega) (by omega))]
    exact ih (y + 1) (fun z h1 h2 => h z (by omega) (by omega))
theorem mL_skip {s : Nat → Int32} {a : Nat} : ∀ k m y, (∀ z, y ≤ z → z < y + k → ¬ anyN s a z 4 = true) → mL s a (k + m) y = mL s a m (y + k) := by
  intro k
  induction k with
  | zero => intro m y _; rw [Nat.zero_add, Nat.add_zero]
  | succ k ih =>
    intro m y h
    rw [show k + 1 + m = (k + m) + 1 by omega]
    show (if anyN s a y 4 = true then y :: mL s a (k + m) (y + 1) else mL s a (k + m) (y + 1)) = _
    rw [if_neg (h y (by omega) (by omega)), ih m (y + 1) (fun z h1 h2 => h z (by omega) (by omega)), show y + 1 + k = y + (k + 1) by omega]
theorem anyN_near {s : Nat → Int32} (hV : VS s) {a y : Nat} (hy : y < 200) (h : anyN s a y 4 = true) : a ≤ y + 6 ∧ y ≤ a + 6 := by
  obtain ⟨c, -, h2⟩ := anyN_iff.mp h
  have := nm_near hV (c := c) (y := y) (by omega)
  omega
/-- at most two years of a name in each county -/
def tI (A B m y : Nat) : Nat := min (y + m) B - max y A
theorem tI_mono (A B m y : Nat) : tI A B m (y + 1) ≤ tI A B (m + 1) y := by unfold tI; omega
theorem tI_step {A B m y : Nat} (h1 : A ≤ y) (h2 : y < B) : tI A B m (y + 1) + 1 ≤ tI A B (m + 1) y := by unfold tI; omega
theorem tI_two {A B m y : Nat} (h : B ≤ A + 2) : tI A B m y ≤ 2 := by unfold tI; omega
theorem mL_len {s : Nat → Int32} (hV : VS s) (a : Nat) : ∀ m y, y + m ≤ 200 → (mL s a m y).length ≤ tI (cum (so s 0) (bo s 0) a) (cum (so s 0) (bo s 0) (a + 1)) m y + tI (cum (so s 1) (bo s 1) a) (cum (so s 1) (bo s 1) (a + 1)) m y + tI (cum (so s 2) (bo s 2) a) (cum (so s 2) (bo s 2) (a + 1)) m y + tI (cum (so s 3) (bo s 3) a) (cum (so s 3) (bo s 3) (a + 1)) m y := by
  intro m
  induction m with
  | zero => intro y _; exact Nat.zero_le _
  | succ m ih =>
    intro y hy
    have ih := ih (y + 1) (by omega)
    have m0 := tI_mono (cum (so s 0) (bo s 0) a) (cum (so s 0) (bo s 0) (a + 1)) m y
    have m1 := tI_mono (cum (so s 1) (bo s 1) a) (cum (so s 1) (bo s 1) (a + 1)) m y
    have m2 := tI_mono (cum (so s 2) (bo s 2) a) (cum (so s 2) (bo s 2) (a + 1)) m y
    have m3 := tI_mono (cum (so s 3) (bo s 3) a) (cum (so s 3) (bo s 3) (a + 1)) m y
    unfold mL
    by_cases q : anyN s a y 4 = true
    · rw [if_pos q, List.length_cons]
      obtain ⟨c, hc, e⟩ := anyN_iff.mp q
      have sp := nm_spec hV (c := c) (y := y) (by omega)
      rw [e] at sp
      have st := tI_step (m := m) sp.1 sp.2
      rcases q4 hc with rfl | rfl | rfl | rfl <;> omega
    · rw [if_neg q]; omega
theorem cum_two (so bo : Nat → Bool) (a : Nat) : cum so bo (a + 1) ≤ cum so bo a + 2 := by
  show cum so bo a + _ ≤ _
  split
  · omega
  · split <;> omega
theorem mL_8 {s : Nat → Int32} (hV : VS s) (a : Nat) : (mL s a 200 0).length ≤ 8 := by
  have h := mL_len hV a 200 0 (by omega)
  have m0 := tI_two (m := 200) (y := 0) (cum_two (so s 0) (bo s 0) a)
  have m1 := tI_two (m := 200) (y := 0) (cum_two (so s 1) (bo s 1) a)
  have m2 := tI_two (m := 200) (y := 0) (cum_two (so s 2) (bo s 2) a)
  have m3 := tI_two (m := 200) (y := 0) (cum_two (so s 3) (bo s 3) a)
  omega
theorem mL_at {s : Nat → Int32} {a : Nat} : ∀ m y i, i < (mL s a m y).length → y ≤ (mL s a m y).getD i 0 ∧ (mL s a m y).getD i 0 < y + m ∧ anyN s a ((mL s a m y).getD i 0) 4 = true := by
  intro m
  induction m with
  | zero => intro y i h; exact absurd h (Nat.not_lt_zero i)
  | succ m ih =>
    intro y i h
    unfold mL at h ⊢
    by_cases q : anyN s a y 4 = true
    · rw [if_pos q] at h ⊢
      cases i with
      | zero => exact ⟨Nat.le_refl _, by show y < _; omega, q⟩
      | succ i =>
        have := ih (y + 1) i (Nat.lt_of_succ_lt_succ h)
        show y ≤ (mL s a m (y + 1)).getD i 0 ∧ (mL s a m (y + 1)).getD i 0 < _ ∧ anyN s a ((mL s a m (y + 1)).getD i 0) 4 = true
        exact ⟨by omega, by omega, this.2.2⟩
    · rw [if_neg q] at h ⊢
      have := ih (y + 1) i h
      exact ⟨by omega, by omega, this.2.2⟩
theorem mL_lt {s : Nat → Int32} {a : Nat} : ∀ m y i j, i < j → j < (mL s a m y).length → (mL s a m y).getD i 0 < (mL s a m y).getD j 0 := by
  intro m
  induction m with
  | zero => intro y i j _ h; exact absurd h (Nat.not_lt_zero j)
  | succ m ih =>
    intro y i j hij h
    unfold mL at h ⊢
    by_cases q : anyN s a y 4 = true
    · rw [if_pos q] at h ⊢
      cases j with
      | zero => omega
      | succ j =>
        have hj : j < (mL s a m (y + 1)).length := Nat.lt_of_succ_lt_succ h
        cases i with
        | zero =>
          have := (mL_at m (y + 1) j hj).1
          show y < (mL s a m (y + 1)).getD j 0
          omega
        | succ i => exact ih (y + 1) i j (by omega) hj
    · rw [if_neg q] at h ⊢
      exact ih (y + 1) i j hij h
theorem mL_mem {s : Nat → Int32} {a : Nat} : ∀ m y z, y ≤ z → z < y + m → anyN s a z 4 = true → ∃ i, i < (mL s a m y).length ∧ (mL s a m y).getD i 0 = z := by
  intro m
  induction m with
  | zero => intro y z h1 h2; omega
  | succ m ih =>
    intro y z h1 h2 h3
    unfold mL
    by_cases e : z = y
    · subst e
      rw [if_pos h3]
      exact ⟨0, Nat.succ_pos _, rfl⟩
    · obtain ⟨i, g1, g2⟩ := ih (y + 1) z (by omega) (by omega) h3
      by_cases q : anyN s a y 4 = true
      · rw [if_pos q]
        exact ⟨i + 1, Nat.succ_lt_succ g1, g2⟩
      · rw [if_neg q]
        exact ⟨i, g1, g2⟩
theorem drop_cons' : ∀ {L : List Nat} {n x : Nat} {K : List Nat}, L.drop n = x :: K → n < L.length ∧ L.getD n 0 = x ∧ L.drop (n + 1) = K := by
  intro L
  induction L with
  | nil => intro n x K h; rw [List.drop_nil] at h; cases h
  | cons a L ih =>
    intro n x K h
    cases n with
    | zero => cases h; exact ⟨Nat.succ_pos _, rfl, rfl⟩
    | succ n =>
      obtain ⟨h1, h2, h3⟩ := ih (n := n) h
      exact ⟨Nat.succ_lt_succ h1, h2, h3⟩
theorem drop_nil' {L : List Nat} {n : Nat} (h : L.drop n = []) : L.length ≤ n := List.drop_eq_nil_iff.mp h
theorem nil_drop' {L : List Nat} {n : Nat} (h : L.length ≤ n) : L.drop n = [] := List.drop_eq_nil_iff.mpr h
/-- the days of paper p -/
def dn (s : Nat → Int32) (p : Nat) : Nat := (mL s (px s 0 p) 200 0).length
def dg (s : Nat → Int32) (p i : Nat) : Nat := 365 * (mL s (px s 0 p) 200 0).getD i 0 + px s 1 p % 365
theorem dn_8 {s : Nat → Int32} (hV : VS s) (p : Nat) : dn s p ≤ 8 := mL_8 hV _
theorem dg_lt {s : Nat → Int32} (p i : Nat) (h : i < dn s p) : dg s p i < 73000 := by
  have h1 := (mL_at 200 0 i h).2.1
  have h2 := Nat.mod_lt (px s 1 p) (show 0 < 365 by decide)
  unfold dg; omega
theorem dg_srt (s : Nat → Int32) : srt (dn s) (dg s) := by
  intro p i j hij hj
  have := mL_lt 200 0 i j hij hj
  unfold dg; omega
theorem pxI {M : Mem} (hI : IWM M) {p : Nat} (hp : p < N (M.1 65) 2) : (∀ w, w < 2 → M.1 65 (68 + 2 * p + w) = nI (px (M.1 65) w p)) ∧ px (M.1 65) 0 p < 207 ∧ px (M.1 65) 1 p < 365 ∧ p < 8 ∧ M.1 23 p = nI (px (M.1 65) 0 p) ∧ M.1 24 p = nI (px (M.1 65) 1 p) := by
  obtain ⟨-, -, ⟨v3, i3⟩, -⟩ := hI
  have h8 := v3.2.1
  obtain ⟨g0, g1, g2⟩ := v3.2.2 p hp
  have g3 := i3.2 p hp
  exact ⟨g0, g1, g2, by omega, g3.1.trans (g0 0 (by omega)), g3.2.trans (g0 1 (by omega))⟩
theorem anyS_ok {xs : gX} {d : Nat} {M1 : Mem} {Q : Int32 → Mem → Prop} {s : Nat → Int32} {a y : Nat} (hV : VS s) (hS : SKY M1 15 s) (ha : a < 1000) (hy : y < 200) (hQ : Q (b2 (anyN s a y 4)) M1) : MI xs (d + 1) mX6_isNamedAnywhere [.ref 15, .int (nI a), .int (nI y)] M1 Q := by
  have key : ∀ m c, c + m = 4 → anyN s a y c = false → GW xs (d + 1) mX6_isNamedAnywhere 2 [(0, .ref 15), (1, .int (nI a)), (2, .int (nI y)), (3, .int (nI c))] [] M1 (QI Q) := by
    intro m
    induction m with
    | zero =>
      intro c hc hf
      obtain rfl : c = 4 := by omega
      apply wp_X6_isNamedAnywhere_15_L2
      rw [hf, b2_f] at hQ
      exact ite_n (by decide) hQ
    | succ m ih =>
      intro c hc hf
      have nn := nm_near hV (c := c) (y := y) (by omega)
      apply wp_X6_isNamedAnywhere_15_L2
      refine ite_p (nI_ltI' (b := 4) (by omega) (by decide) (by omega)) (nameOf_ok hV hS (by omega) (by omega) ?_)
      by_cases e : nm s c y = a
      · rw [anyN_iff.mpr ⟨c, by omega, e⟩, b2_t] at hQ
        exact ite_p (by rw [← e]) hQ
      · rw [nI_1]
        refine ite_n (nI_ne (by omega) (by omega) e) (ih (c + 1) (by omega) ?_)
        unfold anyN
        rw [hf]
        simp [e]
  apply wp_X6_isNamedAnywhere_15
  exact key 4 0 (by omega) rfl
theorem anyC_ok {xs : gX} {d : Nat} {M M1 : Mem} {Q : Int32 → Mem → Prop} {a y : Nat} (hI : IWM M) (h : F1 M M1) (ha : a < 1000) (hy : y < 200) (hQ : Q (b2 (anyN (M.1 65) a y 4)) M1) : MI xs (d + 1) mX6_isNamedAnywhere [.ref 15, .int (nI a), .int (nI y)] M1 Q := by
  obtain ⟨⟨v1, i1⟩, -⟩ := (IW_FR (IWM_2 hI M1.2) (F1fr h))
  rw [(F1s65 h)] at v1 i1
  exact anyS_ok v1 i1 ha hy hQ
/-- the class lists the days -/
theorem listDays_ok {xs : gX} {d : Nat} {M M1 : Mem} {Q : Int32 → Mem → Prop} {p : Nat} (hI : IWM M) (h : F1 M M1) (hp : p < N (M.1 65) 2) (hQ : ∀ f : Nat → Int32, (∀ i, i < dn (M.1 65) p → f i = nI (dg (M.1 65) p i)) → Q (nI (dn (M.1 65) p)) (mwA M1 25 f)) : MI xs (d + 2) mX2_listDays [.ref 22, .ref 15, .int (nI p)] M1 Q := by
  obtain ⟨g0, g1, g2, g3, g4, g5⟩ := pxI hI hp
  have hV := hI.1.1
  obtain ⟨a, ha⟩ : ∃ a, a = px (M.1 65) 0 p := ⟨_, rfl⟩
  obtain ⟨o, ho⟩ : ∃ o, o = px (M.1 65) 1 p := ⟨_, rfl⟩
  rw [← ha] at g1 g4
  rw [← ho] at g2 g5
  have h8 := mL_8 hV a
  have hdn : dn (M.1 65) p = (mL (M.1 65) a 200 0).length := by rw [ha]; rfl
  have hdg : ∀ i, dg (M.1 65) p i = 365 * (mL (M.1 65) a 200 0).getD i 0 + o := fun i => by
    show 365 * (mL (M.1 65) (px (M.1 65) 0 p) 200 0).getD i 0 + px (M.1 65) 1 p % 365 = _
    rw [← ha, ← ho, Nat.mod_eq_of_lt g2]
  have c23 : ∀ f, (mwA M1 25 f).1 23 p = nI a := fun f => by rw [mwA_ne _ _ (by decide), h 23 (by decide), g4]
  have c24 : ∀ f, (mwA M1 25 f).1 24 p = nI o := fun f => by rw [mwA_ne _ _ (by decide), h 24 (by decide), g5]
  obtain ⟨l, hl⟩ : ∃ l, l = min 199 (a + 6) := ⟨_, rfl⟩
  have fin : ∀ n f, n ≤ (mL (M.1 65) a 200 0).length → (mL (M.1 65) a 200 0).drop n = [] → (∀ i, i < n → f i = nI (dg (M.1 65) p i)) → Q (nI n) (mwA M1 25 f) := by
    intro n f h1 h2 h3
    have h4 := drop_nil' h2
    have e : n = dn (M.1 65) p := by rw [hdn]; omega
    rw [e]
    exact hQ f (fun i hi => h3 i (by rw [e]; exact hi))
  have key : ∀ m y n f, y + m = 200 → n ≤ (mL (M.1 65) a 200 0).length → (mL (M.1 65) a 200 0).drop n = mL (M.1 65) a m y → (∀ i, i < n → f i = nI (dg (M.1 65) p i)) → GW xs (d + 2) mX2_listDays 34 [(0, .ref 22), (1, .ref 15), (2, .int (nI p)), (3, .int (nI n)), (4, .int (nI l)), (5, .int (nI y))] [] (mwA M1 25 f) (QI Q) := by
    intro m
    induction m with
    | zero =>
      intro y n f hy hn hd hf
      apply wp_X2_listDays_22_15_L34
      exact ite_p (nI_ltI' (by omega) (by omega) (by omega)) (fin n f hn hd hf)
    | succ m ih =>
      intro y n f hy hn hd hf
      apply wp_X2_listDays_22_15_L34
      by_cases q : l < y
      · rw [mL_nil (m + 1) y (fun z h1 h2 e => by have := anyN_near hV (by omega) e; omega)] at hd
        exact ite_p (nI_ltI' (by omega) (by omega) q) (fin n f hn hd hf)
      · refine ite_n (nI_nltI (by omega) (by omega) (by omega)) ?_
        rw [nn_at (n := p) (by omega), nn_at (n := n) (by omega), c23, nI_1]
        have hF : F1 M (mwA M1 25 f) := fun k hk => by rw [mwA_ne _ _ (fun e => hk (by rw [e]; decide))]; exact h k hk
        by_cases q8 : n < 8
        · refine ite_p (nI_ltI' (b := 8) (by omega) (by decide) q8) ⟨vin_n (by omega) (by decide), anyC_ok hI hF (by omega) (by omega) ?_⟩
          rw [mL_s _ _ m y] at hd
          cases hb : anyN (M.1 65) a y 4 with
          | false =>
            rw [hb, if_neg (by decide)] at hd
            exact ite_p rfl (ih (y + 1) n f (by omega) hn hd hf)
          | true =>
            rw [hb, if_pos rfl] at hd
            obtain ⟨d1, d2, d3⟩ := drop_cons' hd
            refine ite_n (by decide) ⟨vin_n q8 (by decide), ?_⟩
            rw [c24, mw_mwA, nI_1, show (nI y * 365) + nI o = nI (365 * y + o) by simp only [i_lit, nI_mul, nI_add, Nat.mul_comm]]
            refine ih (y + 1) (n + 1) _ (by omega) d1 d3 (fun i hi => ?_)
            by_cases e : i = n
            · subst e; rw [upd_at, hdg, d2]
            · rw [upd_ne _ _ e]; exact hf i (by omega)
        · have e8 : (mL (M.1 65) a 200 0).drop n = [] := nil_drop' (by omega)
          rw [e8] at hd
          refine ite_n (nI_nltI (b := 8) (by omega) (by decide) (by omega)) (ih (y + 1) n f (by omega) hn ?_ hf)
          rw [e8]
          rw [mL_s _ _ m y] at hd
          by_cases qb : anyN (M.1 65) a y 4 = true
          · rw [if_pos qb] at hd; cases hd
          · rw [if_neg qb] at hd; exact hd
  apply wp_X2_listDays_22_15
  rw [nn_at (n := p) (by omega), h 23 (by decide), g4]
  have e1 : gmin 199 (nI a + 6) = nI l := by
    rw [show nI a + 6 = nI (a + 6) from nI_add a 6]
    unfold gmin
    by_cases q : a + 6 < 199
    · rw [if_pos (show nI (a + 6) < (199 : Int32) from nI_ltI' (b := 199) (by omega) (by decide) q), show l = a + 6 by omega]
    · rw [if_neg (show ¬ nI (a + 6) < (199 : Int32) from nI_nltI (b := 199) (by omega) (by decide) (by omega)), show l = 199 by omega]; rfl
  have e2 : gmax 0 (nI a - 6) = nI (a - 6) := by
    unfold gmax
    by_cases q : 6 ≤ a
    · rw [show nI a - 6 = nI (a - 6) from pk_sub (a := a) (b := 6) q]
      by_cases q2 : 0 < a - 6
      · rw [if_pos (show (0 : Int32) < nI (a - 6) from nI_ltI' (a := 0) (by omega) (by omega) q2)]
      · rw [if_neg (show ¬ (0 : Int32) < nI (a - 6) from nI_nltI (a := 0) (by omega) (by omega) (by omega)), show a - 6 = 0 by omega]; rfl
    · rw [if_neg, show a - 6 = 0 by omega]
      · rfl
      · intro g
        have := pk_sneg (a := a) (b := 6) (by omega) (by omega)
        rw [Int32.lt_iff_toInt_lt] at g this
        have e0 : (0 : Int32).toInt = 0 := by decide
        have e6 : nI a - 6 = nI a - nI 6 := rfl
        rw [e6] at g
        omega
  rw [e1, e2]
  refine ⟨vin_n (by omega) (by decide), ?_⟩
  have hk := key (200 - (a - 6)) (a - 6) 0 (M1.1 25) (by omega) (Nat.zero_le _) ?_ (fun i hi => absurd hi (Nat.not_lt_zero i))
  · rw [mwA_self] at hk
    exact hk
  · have sk := mL_skip (s := M.1 65) (a := a) (a - 6) (200 - (a - 6)) 0 (fun z h1 h2 e => by have := anyN_near hV (by omega) e; omega)
    rw [show a - 6 + (200 - (a - 6)) = 200 by omega, Nat.zero_add] at sk
    rw [List.drop_zero]
    exact sk
/-- the reference lists those of all papers -/
def MAY (M2 : Mem) (s : Nat → Int32) (n : Nat) : Prop := ∀ p, p < n → M2.1 73 p = nI (dn s p) ∧ ∀ i, i < dn s p → M2.1 72 (8 * p + i) = nI (dg s p i)
theorem findMay_ok {xs : gX} {d : Nat} {M M1 : Mem} {Q : Mem → Prop} (hI : IWM M) (h : F1 M M1) (hQ : ∀ M2, M2.2 = M1.2 → F1 M M2 → MAY M2 (M.1 65) (N (M.1 65) 2) → Q M2) : MV xs (d + 3) mX9_findMay [.ref 64] M1 Q := by
  have hV := hI.1.1
  have hP : M.1 65 2 = nI (N (M.1 65) 2) := hI.2.2.1.1.1
  have hP8 := hI.2.2.1.1.2.1
  obtain ⟨s, hs⟩ : ∃ s, s = M.1 65 := ⟨_, rfl⟩
  obtain ⟨np, hnp⟩ : ∃ np, np = N s 2 := ⟨_, rfl⟩
  have hp8 : np ≤ 8 := by rw [hnp, hs]; exact hP8
  -- what stands all through
  have outer : ∀ m p M2, p + m = np → M2.2 = M1.2 → F1 M M2 → NMS M2 s → MAY M2 s p → GW xs (d + 3) mX9_findMay 6 [(0, .ref 64), (1, .int (nI p))] [] M2 (QV Q) := by
    intro m
    induction m with
    | zero =>
      intro p M2 hp h2 hF hN hA
      apply wp_X9_findMay_64_L6
      rw [(F1s65 hF), hP, ← hs, ← hnp]
      refine ite_n (nI_nltI (by omega) (by omega) (by omega)) (hQ M2 h2 hF ?_)
      rw [← hs, ← hnp, show np = p by omega]
      exact hA
    | succ m ihm =>
      intro p M2 hp h2 hF hN hA
      have hpp : p < N (M.1 65) 2 := by rw [← hs, ← hnp]; omega
      obtain ⟨g0, g1, g2, g3, g4, g5⟩ := pxI hI hpp
      rw [← hs] at g0 g1 g2
      obtain ⟨a, ha⟩ : ∃ a, a = px s 0 p := ⟨_, rfl⟩
      obtain ⟨o, ho⟩ : ∃ o, o = px s 1 p := ⟨_, rfl⟩
      rw [← ha] at g1
      rw [← ho] at g2
      have c0 : s (68 + 2 * p) = nI a := by have := g0 0 (by omega); rw [ha]; exact this
      have c1 : s (68 + 2 * p + 1) = nI o := by have := g0 1 (by omega); rw [ho]; exact this
      have hdn : dn s p = (mL s a 200 0).length := by rw [ha]; rfl
      have hdg : ∀ i, dg s p i = 365 * (mL s a 200 0).getD i 0 + o := fun i => by
        show 365 * (mL s (px s 0 p) 200 0).getD i 0 + px s 1 p % 365 = _
        rw [← ha, ← ho, Nat.mod_eq_of_lt g2]
      have h8 := mL_8 (s := s) (by rw [hs]; exact hV) a
      -- the years
      have inner : ∀ m y n M2, y + m = 200 → n ≤ (mL s a 200 0).length → (mL s a 200 0).drop n = mL s a m y → M2.2 = M1.2 → F1 M M2 → NMS M2 s → MAY M2 s p → M2.1 73 p = nI n → (∀ i, i < n → M2.1 72 (8 * p + i) = nI (dg s p i)) → GW xs (d + 3) mX9_findMay 25 [(0, .ref 64), (1, .int (nI p)), (2, .int (nI y))] [] M2 (QV Q) := by
        intro m
        induction m with
        | zero =>
          intro y n M2 hy hn hd h2 hF hN hA h73 h72
          apply wp_X9_findMay_64_L25
          rw [nI_1]
          refine ite_n (nI_nltI (b := 200) (by omega) (by decide) (by omega)) (ihm (p + 1) M2 (by omega) h2 hF hN (fun p' hp' => ?_))
          by_cases e : p' = p
          · subst e
            have h4 := drop_nil' hd
            rw [h73, hdn, show n = (mL s a 200 0).length by omega]
            exact ⟨rfl, fun i hi => h72 i (by omega)⟩
          · exact hA p' (by omega)
        | succ m ihy =>
          intro y n M2 hy hn hd h2 hF hN hA h73 h72
          apply wp_X9_findMay_64_L25
          refine ite_p (nI_ltI' (b := 200) (by omega) (by decide) (by omega)) ?_
          have z : ∀ c, (200 * nI c) + nI y = nI (200 * c + y) := fun c => by simp only [i_lit, nI_mul, nI_add]
          have z2 : 68 + (2 * nI p) = nI (68 + 2 * p) := by simp only [i_lit, nI_mul, nI_add]
          have z3 : (68 + (2 * nI p)) + 1 = nI (68 + 2 * p + 1) := by simp only [i_lit, nI_mul, nI_add]
          have z4 : (8 * nI p) + nI n = nI (8 * p + n) := by simp only [i_lit, nI_mul, nI_add]
          have z5 : (365 * nI y) + nI o = nI (365 * y + o) := by simp only [i_lit, nI_mul, nI_add]
          have cts : ∀ mc c, c + mc = 4 → GW xs (d + 3) mX9_findMay 37 [(0, .ref 64), (1, .int (nI p)), (2, .int (nI y)), (3, .int (b2 (anyN s a y c))), (4, .int (nI c))] [] M2 (QV Q) := by
            intro mc
            induction mc with
            | zero =>
              intro c hc
              obtain rfl : c = 4 := by omega
              apply wp_X9_findMay_64_L37
              refine ite_n (by decide) ?_
              rw [mL_s _ _ m y] at hd
              cases hb : anyN s a y 4 with
              | false =>
                rw [hb, if_neg (by decide)] at hd
                rw [nI_1]
                exact ite_p rfl (ihy (y + 1) n M2 (by omega) hn hd h2 hF hN hA h73 h72)
              | true =>
                rw [hb, if_pos rfl] at hd
                obtain ⟨d1, d2, d3⟩ := drop_cons' hd
                refine ite_n (by decide) ?_
                rw [z3, nn_at (n := p) (by omega), h73, z4, nn_at (n := 68 + 2 * p + 1) (by omega), nn_at (n := 8 * p + n) (by omega), (F1s65 hF), ← hs, c1, z5, nI_1, nI_1]
                refine ⟨vin_n (by omega) (by decide), vin_n (by omega) (by decide), vin_n (by omega) (by decide), ?_⟩
                refine ihy (y + 1) (n + 1) _ (by omega) d1 d3 h2 (fun k hk => ?_) (fun c y hc hy => ?_) (fun p' hp' => ?_) ?_ (fun i hi => ?_)
                · rw [mw_ne _ _ _ (fun e => hk (by rw [e]; decide)), mw_ne _ _ _ (fun e => hk (by rw [e]; decide))]; exact hF k hk
                · rw [mw_ne _ _ _ (by decide), mw_ne _ _ _ (by decide)]; exact hN c y hc hy
                · have g := hA p' hp'
                  have l8 := mL_8 (s := s) (by rw [hs]; exact hV) (px s 0 p')
                  rw [mw_at, upd_ne _ _ (by omega), mw_ne _ _ _ (by decide : (73 : Nat) ≠ 72)]
                  refine ⟨g.1, fun i hi => ?_⟩
                  have hi8 : i < 8 := Nat.lt_of_lt_of_le hi l8
                  rw [mw_ne _ _ _ (by decide : (72 : Nat) ≠ 73), mw_at, upd_ne _ _ (by omega)]
                  exact g.2 i hi
                · rw [mw_at, upd_at]
                · rw [mw_ne _ _ _ (by decide : (72 : Nat) ≠ 73), mw_at]
                  by_cases e : i = n
                  · subst e; rw [upd_at, hdg, d2]
                  · rw [upd_ne _ _ (by omega)]; exact h72 i (by omega)
            | succ mc ihc =>
              intro c hc
              apply wp_X9_findMay_64_L37
              refine ite_p (nI_ltI' (b := 4) (by omega) (by decide) (by omega)) ?_
              have ihc := ihc (c + 1) (by omega)
              have nn := nm_near (s := s) (by rw [hs]; exact hV) (c := c) (y := y) (by omega)
              rw [z, z2, nn_at (n := 200 * c + y) (by omega), nn_at (n := 68 + 2 * p) (by omega), hN c y (by omega) (by omega), (F1s65 hF), ← hs, c0, nI_1]
              cases hb : anyN s a y c with
              | true =>
                refine ite_n (by decide) ?_
                rw [show anyN s a y (c + 1) = true by unfold anyN; rw [hb]; rfl] at ihc
                exact ihc
              | false =>
                refine ite_p rfl ⟨vin_n (by omega) (by decide), vin_n (by omega) (by decide), ?_⟩
                by_cases e : nm s c y = a
                · rw [show anyN s a y (c + 1) = true by unfold anyN; simp [e]] at ihc
                  exact ite_p (by rw [e]) ihc
                · rw [show anyN s a y (c + 1) = false by unfold anyN; rw [hb]; simp [e]] at ihc
                  exact ite_n (nI_ne (by omega) (by omega) e) ihc
          exact cts 4 0 (by omega)
      apply wp_X9_findMay_64_L6
      rw [(F1s65 hF), hP, ← hs, ← hnp, nn_at (n := p) (by omega)]
      refine ite_p (nI_ltI' (by omega) (by omega) (by omega)) ⟨vin_n (by omega) (by decide), ?_⟩
      refine inner 200 0 0 _ (by omega) (Nat.zero_le _) (List.drop_zero) h2 (fun k hk => ?_) (fun c y hc hy => ?_) (fun p' hp' => ?_) ?_ (fun i hi => absurd hi (Nat.not_lt_zero i))
      · rw [mw_ne _ _ _ (fun e => hk (by rw [e]; decide))]; exact hF k hk
      · rw [mw_ne _ _ _ (by decide)]; exact hN c y hc hy
      · rw [mw_at, upd_ne _ _ (by omega), mw_ne _ _ _ (by decide : (72 : Nat) ≠ 73)]
        exact hA p' hp'
      · rw [mw_at, upd_at]; rfl
  apply wp_X9_findMay_64
  refine namesR (IWM_2 hI M1.2) (F1fr h) (fun M2 h2 => ?_)
  refine outer np 0 M2 (by omega) h2.1.1 h2.1.2 ?_ (fun p hp => absurd hp (Nat.not_lt_zero p))
  rw [hs]
  exact h2.2
