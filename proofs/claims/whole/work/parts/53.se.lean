/-! ===== rows alike but for the sales that are no more ===== -/
def SE (s s' : Nat → Int32) : Prop := ∀ j, (j < 10 + 3 * ns s ∨ 28 ≤ j) → s' j = s j
theorem SE_ns {s s' : Nat → Int32} (h : SE s s') : ns s' = ns s := by unfold ns; rw [h 0 (by omega)]
theorem SE_rfl' {s : Nat → Int32} : SE s s := fun _ _ => rfl
theorem SE_trans {s s' s'' : Nat → Int32} (h : SE s s') (h2 : SE s' s'') : SE s s'' := fun j hj => (h2 j (by rw [SE_ns h]; exact hj)).trans (h j hj)
theorem SE_symm {s s' : Nat → Int32} (h : SE s s') : SE s' s := fun j hj => (h j (by rw [← SE_ns h]; exact hj)).symm
theorem SE_sx {s s' : Nat → Int32} (h : SE s s') {w k : Nat} (hk : k < ns s) (hw : w < 3) : sx s' w k = sx s w k := by
  unfold sx
  rw [h _ (by omega)]
theorem SE_N {s s' : Nat → Int32} (h : SE s s') {j : Nat} (hj : j < 10 ∨ 28 ≤ j) : N s' j = N s j := by
  unfold N
  rw [h j (by omega)]
theorem SE_hN {s s' : Nat → Int32} (h : SE s s') {w c k : Nat} (hw : w < 3) : ∀ n, n ≤ ns s → hN s' w c k n = hN s w c k n := by
  intro n
  induction n with
  | zero => intro _; rfl
  | succ n ih =>
    intro hn
    show (hN s' w c k n || (decide (sx s' 0 n = k) && decide (sx s' w n = c))) = (hN s w c k n || (decide (sx s 0 n = k) && decide (sx s w n = c)))
    rw [ih (by omega), SE_sx h (by omega) (by omega), SE_sx h (by omega) hw]
theorem SE_nm {s s' : Nat → Int32} (h : SE s s') (c y : Nat) : nm s' c y = nm s c y := by
  have e1 : so s' c = so s c := funext (fun k => by show hN s' 1 c k (ns s') = _; rw [SE_ns h, SE_hN h (by omega) _ (Nat.le_refl _)])
  have e2 : bo s' c = bo s c := funext (fun k => by show hN s' 2 c k (ns s') = _; rw [SE_ns h, SE_hN h (by omega) _ (Nat.le_refl _)])
  unfold nm
  rw [e1, e2]
theorem SE_pts {s s' : Nat → Int32} (h : SE s s') {c : Nat} : ∀ n, n ≤ ns s → pts s' c n = pts s c n := by
  intro n
  induction n with
  | zero => intro _; rfl
  | succ n ih =>
    intro hn
    show pts s' c n + (if sx s' 1 n = c ∨ sx s' 2 n = c then 1 else 0) = pts s c n + (if sx s 1 n = c ∨ sx s 2 n = c then 1 else 0)
    rw [ih (by omega), SE_sx h (by omega) (by omega), SE_sx h (by omega) (by omega)]
theorem SE_unl {s s' : Nat → Int32} (h : SE s s') {c a : Nat} : ∀ m, unl s' c a m = unl s c a m := by
  intro m
  induction m with
  | zero => rfl
  | succ m ih =>
    show unl s' c a m + (if nm s' c (a + m + 1) = nm s' c (a + m) then 0 else 1) = _
    rw [ih, SE_nm h, SE_nm h]
    rfl
theorem SE_bkN {s s' : Nat → Int32} (h : SE s s') (t c y : Nat) : bkN s' t c y = bkN s t c y := by
  unfold bkN
  rw [SE_nm h, SE_nm h, show tx s' 2 t = tx s 2 t from SE_N h (by omega), show tx s' 3 t = tx s 3 t from SE_N h (by omega)]
theorem SE_evS {s s' : Nat → Int32} (h : SE s s') {u : Nat} {x1 x2 x3 : Int32} : ∀ k, evS s' u x1 x2 x3 k = evS s u x1 x2 x3 k := by
  intro k
  induction k with
  | zero => rfl
  | succ k ih =>
    unfold evS
    rw [ih, h (84 + 125 * u + 1 + 2 * k) (by omega), h (84 + 125 * u + 2 + 2 * k) (by omega)]
theorem SE_evT {s s' : Nat → Int32} (h : SE s s') {u : Nat} {x1 x2 x3 : Int32} : evT s' u x1 x2 x3 = evT s u x1 x2 x3 := by
  unfold evT
  rw [SE_evS h, SE_N h (by omega)]
theorem SE_ageF {s s' : Nat → Int32} (h : SE s s') (t c y : Nat) : ageF s' t c y = ageF s t c y := by
  unfold ageF
  rw [show tx s' 0 t = tx s 0 t from SE_N h (by omega), show tx s' 1 t = tx s 1 t from SE_N h (by omega), show tx s' 3 t = tx s 3 t from SE_N h (by omega), SE_bkN h, SE_unl h, SE_ns h, SE_pts h _ (Nat.le_refl _), SE_evT h, h 84 (by omega)]
theorem SE_agn {s s' : Nat → Int32} (h : SE s s') (t : Nat) : agn s' t = agn s t := by
  unfold agn
  rw [SE_ageF h, show tx s' 2 t = tx s 2 t from SE_N h (by omega), SE_N h (by omega)]
theorem VS_SE {s s' : Nat → Int32} (h : SE s s') (hV : VS s) : VS s' := by
  obtain ⟨h0, h6, h1, h2⟩ := hV
  refine ⟨by rw [SE_ns h, h 0 (by omega)]; exact h0, by rw [SE_ns h]; exact h6, fun k hk => ?_, fun j k hjk hk => ?_⟩
  · rw [SE_ns h] at hk
    obtain ⟨g0, g⟩ := h1 k hk
    refine ⟨fun w hw => by rw [h _ (by omega), SE_sx h hk hw]; exact g0 w hw, ?_⟩
    rw [show sa s' k = sa s k from SE_sx h hk (by omega), show sf s' k = sf s k from SE_sx h hk (by omega), show st s' k = st s k from SE_sx h hk (by omega)]
    exact g
  · rw [SE_ns h] at hk
    have hj : j < ns s := by omega
    rw [show sa s' k = sa s k from SE_sx h hk (by omega), show sf s' k = sf s k from SE_sx h hk (by omega), show st s' k = st s k from SE_sx h hk (by omega), show sa s' j = sa s j from SE_sx h hj (by omega), show sf s' j = sf s j from SE_sx h hj (by omega), show st s' j = st s j from SE_sx h hj (by omega)]
    exact h2 j k hjk hk
theorem SKY_SE {M : Mem} {b : Nat} {s s' : Nat → Int32} (h : SE s s') (hS : SKY M b s) : SKY M b s' := by
  obtain ⟨a0, a1, p, p1, p2, p3⟩ := hS
  refine ⟨by rw [h 0 (by omega)]; exact a0, fun k hk => ?_, p, fun i hi => ?_, ⟨fun i hi => ?_, fun i j hi hj => ?_⟩, fun i j hij hj => ?_⟩
  · rw [SE_ns h] at hk
    rw [h _ (by omega), h _ (by omega), h _ (by omega)]
    exact a1 k hk
  · rw [SE_ns h] at hi; exact p1 i hi
  · rw [SE_ns h] at hi ⊢; exact p2.1 i hi
  · rw [SE_ns h] at hi hj; exact p2.2 i j hi hj
  · rw [SE_ns h] at hj
    rw [show sa s' (p i) = sa s (p i) from SE_sx h (p2.1 i (by omega)) (by omega), show sa s' (p j) = sa s (p j) from SE_sx h (p2.1 j hj) (by omega)]
    exact p3 i j hij hj
theorem IW_SE {M : Mem} {w b : Nat} {s s' : Nat → Int32} (h : SE s s') (hI : IW M w b s) : IW M w b s' :=
  IW_sales hI (fun j _ h0 hj => h j (by omega)) (fun _ _ => rfl) (VS_SE h hI.1.1) (SKY_SE h hI.1.2)
/-- a sale, and back -/
theorem SE_back {s : Nat → Int32} (hV : VS s) (hn : ns s < 6) (a f t : Int32) : SE s (sLess (sAdd s a f t)) := by
  intro j hj
  unfold sLess
  by_cases h0 : j = 0
  · subst h0
    rw [upd_at, ns_add hV, show ns s + 1 - 1 = ns s by omega]
    exact hV.1.symm
  · rw [upd_ne _ _ h0]
    rcases hj with hj | hj
    · rw [sAdd, upd_ne _ _ h0, upd_ne _ _ (by omega), upd_ne _ _ (by omega), upd_ne _ _ (by omega)]
    · have := hV.2.1
      by_cases q : 10 + 3 * ns s + 2 < j
      · exact sAdd_far _ _ _ h0 (.inr q)
      · exfalso; omega
theorem SE_add {s s' : Nat → Int32} (h : SE s s') (hV : VS s) (a f t : Int32) : SE (sAdd s a f t) (sAdd s' a f t) := by
  intro j hj
  rw [ns_add hV] at hj
  unfold sAdd
  rw [SE_ns h]
  by_cases e0 : j = 0
  · subst e0; rw [upd_at, upd_at]
  rw [upd_ne _ _ e0, upd_ne _ _ e0]
  by_cases e2 : j = 10 + 3 * ns s + 2
  · subst e2; rw [upd_at, upd_at]
  rw [upd_ne _ _ e2, upd_ne _ _ e2]
  by_cases e1 : j = 10 + 3 * ns s + 1
  · subst e1; rw [upd_at, upd_at]
  rw [upd_ne _ _ e1, upd_ne _ _ e1]
  by_cases e3 : j = 10 + 3 * ns s + 0
  · subst e3; rw [upd_at, upd_at]
  rw [upd_ne _ _ e3, upd_ne _ _ e3]
  exact h j (by omega)
theorem SE_trB {s s' : Nat → Int32} (h : SE s s') (a f t : Nat) : trB s' a f t = trB s a f t := by
  unfold trB
  rw [SE_ns h, SE_hN h (by omega) _ (Nat.le_refl _), SE_hN h (by omega) _ (Nat.le_refl _), SE_hN h (by omega) _ (Nat.le_refl _), SE_hN h (by omega) _ (Nat.le_refl _)]
