/-! ===== days in order: sums, forward and backward ===== -/
def sg (f : Nat → Nat) : Nat → Nat
  | 0 => 0
  | n + 1 => sg f n + f n
theorem sg_congr {f f' : Nat → Nat} : ∀ {n : Nat}, (∀ i, i < n → f i = f' i) → sg f n = sg f' n := by
  intro n
  induction n with
  | zero => intro _; rfl
  | succ n ih =>
    intro h
    show sg f n + f n = sg f' n + f' n
    rw [ih (fun i hi => h i (by omega)), h n (by omega)]
theorem sg_zero : ∀ n, sg (fun _ => 0) n = 0 := by
  intro n
  induction n with
  | zero => rfl
  | succ n ih => show sg (fun _ => 0) n + 0 = 0; rw [ih]
theorem sg_add (f f' : Nat → Nat) : ∀ n, sg (fun i => f i + f' i) n = sg f n + sg f' n := by
  intro n
  induction n with
  | zero => rfl
  | succ n ih =>
    show sg (fun i => f i + f' i) n + (f n + f' n) = sg f n + f n + (sg f' n + f' n)
    rw [ih]; omega
theorem sg_mulr (f : Nat → Nat) (a : Nat) : ∀ n, sg (fun i => f i * a) n = sg f n * a := by
  intro n
  induction n with
  | zero => exact (Nat.zero_mul a).symm
  | succ n ih =>
    show sg (fun i => f i * a) n + f n * a = (sg f n + f n) * a
    rw [ih, Nat.add_mul]
theorem sg_mull (f : Nat → Nat) (a : Nat) : ∀ n, sg (fun i => a * f i) n = a * sg f n := by
  intro n
  induction n with
  | zero => exact (Nat.mul_zero a).symm
  | succ n ih =>
    show sg (fun i => a * f i) n + a * f n = a * (sg f n + f n)
    rw [ih, Nat.mul_add]
theorem sg_swap (f : Nat → Nat → Nat) (m : Nat) : ∀ n, sg (fun i => sg (fun j => f i j) m) n = sg (fun j => sg (fun i => f i j) n) m := by
  intro n
  induction n with
  | zero => exact (sg_zero m).symm
  | succ n ih =>
    show sg (fun i => sg (fun j => f i j) m) n + sg (fun j => f n j) m = sg (fun j => sg (fun i => f i j) n + f n j) m
    rw [ih, ← sg_add]
theorem sg_le {f : Nat → Nat} {b : Nat} : ∀ {n : Nat}, (∀ i, i < n → f i ≤ b) → sg f n ≤ n * b := by
  intro n
  induction n with
  | zero => intro _; exact Nat.zero_le _
  | succ n ih =>
    intro h
    have h1 := ih (fun i hi => h i (by omega))
    have h2 := h n (by omega)
    show sg f n + f n ≤ (n + 1) * b
    rw [Nat.add_mul, Nat.one_mul]; omega
theorem sg_pos {f : Nat → Nat} : ∀ {n : Nat}, 0 < sg f n ↔ ∃ i, i < n ∧ 0 < f i := by
  intro n
  induction n with
  | zero => exact ⟨fun h => absurd h (Nat.lt_irrefl 0), fun ⟨i, h, _⟩ => absurd h (Nat.not_lt_zero i)⟩
  | succ n ih =>
    constructor
    · intro h
      have h : 0 < sg f n + f n := h
      by_cases q : 0 < f n
      · exact ⟨n, by omega, q⟩
      · obtain ⟨i, h1, h2⟩ := ih.mp (by omega)
        exact ⟨i, by omega, h2⟩
    · intro ⟨i, h1, h2⟩
      show 0 < sg f n + f n
      by_cases q : i = n
      · subst q; omega
      · have := ih.mpr ⟨i, by omega, h2⟩
        omega
/-- the days of each paper: how many, and which -/
abbrev dN : Type := Nat → Nat
abbrev dG : Type := Nat → Nat → Nat
def fw (nn : dN) (g : dG) : Nat → Nat → Nat
  | 0, _ => 1
  | p + 1, x => sg (fun i => if g p i < x then fw nn g p (g p i) else 0) (nn p)
def bw (nn : dN) (g : dG) : Nat → Nat → Nat → Nat
  | 0, _, _ => 1
  | k + 1, p, h => sg (fun i => if h ≤ g p i then bw nn g k (p + 1) (g p i + 1) else 0) (nn p)
theorem fb_step (nn : dN) (g : dG) (k p : Nat) : sg (fun i => fw nn g p (g p i) * bw nn g (k + 1) (p + 1) (g p i + 1)) (nn p) = sg (fun j => fw nn g (p + 1) (g (p + 1) j) * bw nn g k (p + 2) (g (p + 1) j + 1)) (nn (p + 1)) := by
  have e1 : ∀ i, fw nn g p (g p i) * bw nn g (k + 1) (p + 1) (g p i + 1) = sg (fun j => if g p i < g (p + 1) j then fw nn g p (g p i) * bw nn g k (p + 2) (g (p + 1) j + 1) else 0) (nn (p + 1)) := by
    intro i
    show fw nn g p (g p i) * sg (fun j => if g p i + 1 ≤ g (p + 1) j then bw nn g k (p + 1 + 1) (g (p + 1) j + 1) else 0) (nn (p + 1)) = _
    rw [← sg_mull]
    refine sg_congr (fun j _ => ?_)
    by_cases q : g p i < g (p + 1) j
    · rw [if_pos q, if_pos (show g p i + 1 ≤ g (p + 1) j from q)]
    · rw [if_neg q, if_neg (show ¬ g p i + 1 ≤ g (p + 1) j from q), Nat.mul_zero]
  have e2 : ∀ j, fw nn g (p + 1) (g (p + 1) j) * bw nn g k (p + 2) (g (p + 1) j + 1) = sg (fun i => if g p i < g (p + 1) j then fw nn g p (g p i) * bw nn g k (p + 2) (g (p + 1) j + 1) else 0) (nn p) := by
    intro j
    show sg (fun i => if g p i < g (p + 1) j then fw nn g p (g p i) else 0) (nn p) * _ = _
    rw [← sg_mulr]
    refine sg_congr (fun i _ => ?_)
    by_cases q : g p i < g (p + 1) j
    · rw [if_pos q, if_pos q]
    · rw [if_neg q, if_neg q, Nat.zero_mul]
  rw [sg_congr (fun i _ => e1 i), sg_congr (fun j _ => e2 j), sg_swap]
theorem fb_all (nn : dN) (g : dG) : ∀ p k, sg (fun i => fw nn g p (g p i) * bw nn g k (p + 1) (g p i + 1)) (nn p) = bw nn g (p + k + 1) 0 0 := by
  intro p
  induction p with
  | zero =>
    intro k
    rw [show 0 + k + 1 = k + 1 by omega]
    show _ = sg (fun i => if 0 ≤ g 0 i then bw nn g k (0 + 1) (g 0 i + 1) else 0) (nn 0)
    refine sg_congr (fun i _ => ?_)
    rw [if_pos (Nat.zero_le _)]
    exact Nat.one_mul _
  | succ p ih =>
    intro k
    rw [← fb_step, ih (k + 1), show p + (k + 1) + 1 = p + 1 + k + 1 by omega]
theorem fb_total {nn : dN} {g : dG} {n X : Nat} (h : ∀ p i, p < n → i < nn p → g p i < X) : fw nn g n X = bw nn g n 0 0 := by
  cases n with
  | zero => rfl
  | succ p =>
    have e := fb_all nn g p 0
    rw [show p + 0 + 1 = p + 1 by omega] at e
    rw [← e]
    refine sg_congr (fun i hi => ?_)
    rw [if_pos (h p i (by omega) hi)]
    exact (Nat.mul_one _).symm
theorem fw_mono {nn : dN} {g : dG} {p x y : Nat} (h : x ≤ y) (hx : 0 < fw nn g p x) : 0 < fw nn g p y := by
  cases p with
  | zero => exact Nat.one_pos
  | succ p =>
    obtain ⟨i, h1, h2⟩ := sg_pos.mp hx
    refine sg_pos.mpr ⟨i, h1, ?_⟩
    by_cases q : g p i < x
    · rw [if_pos q] at h2; rw [if_pos (by omega)]; exact h2
    · rw [if_neg q] at h2; exact absurd h2 (Nat.lt_irrefl 0)
theorem bw_mono {nn : dN} {g : dG} {k p x y : Nat} (h : x ≤ y) (hy : 0 < bw nn g k p y) : 0 < bw nn g k p x := by
  cases k with
  | zero => exact Nat.one_pos
  | succ k =>
    obtain ⟨i, h1, h2⟩ := sg_pos.mp hy
    refine sg_pos.mpr ⟨i, h1, ?_⟩
    by_cases q : y ≤ g p i
    · rw [if_pos q] at h2; rw [if_pos (by omega)]; exact h2
    · rw [if_neg q] at h2; exact absurd h2 (Nat.lt_irrefl 0)
theorem fw_le {nn : dN} {g : dG} (hn : ∀ p, nn p ≤ 8) : ∀ p x, fw nn g p x ≤ 8 ^ p := by
  intro p
  induction p with
  | zero => intro x; exact Nat.le_refl 1
  | succ p ih =>
    intro x
    have h := sg_le (f := fun i => if g p i < x then fw nn g p (g p i) else 0) (b := 8 ^ p) (n := nn p) (fun i _ => by
      show (if g p i < x then fw nn g p (g p i) else 0) ≤ 8 ^ p
      by_cases q : g p i < x
      · rw [if_pos q]; exact ih _
      · rw [if_neg q]; exact Nat.zero_le _)
    have h2 := Nat.mul_le_mul_right (8 ^ p) (hn p)
    show sg _ _ ≤ 8 ^ (p + 1)
    rw [Nat.pow_succ, Nat.mul_comm]
    exact Nat.le_trans h h2
theorem bw_le {nn : dN} {g : dG} (hn : ∀ p, nn p ≤ 8) : ∀ k p x, bw nn g k p x ≤ 8 ^ k := by
  intro k
  induction k with
  | zero => intro p x; exact Nat.le_refl 1
  | succ k ih =>
    intro p x
    have h := sg_le (f := fun i => if x ≤ g p i then bw nn g k (p + 1) (g p i + 1) else 0) (b := 8 ^ k) (n := nn p) (fun i _ => by
      show (if x ≤ g p i then bw nn g k (p + 1) (g p i + 1) else 0) ≤ 8 ^ k
      by_cases q : x ≤ g p i
      · rw [if_pos q]; exact ih _ _
      · rw [if_neg q]; exact Nat.zero_le _)
    have h2 := Nat.mul_le_mul_right (8 ^ k) (hn p)
    show sg _ _ ≤ 8 ^ (k + 1)
    rw [Nat.pow_succ, Nat.mul_comm]
    exact Nat.le_trans h h2
theorem p8_le {p : Nat} (h : p ≤ 8) : 8 ^ p ≤ 16777216 := Nat.pow_le_pow_right (n := 8) (by decide) h
/-- the first that is h or more; the last that is less than u -/
def fsN (f : Nat → Nat) (h : Nat) : Nat → Nat → Option Nat
  | 0, _ => none
  | m + 1, i => if h ≤ f i then some i else fsN f h m (i + 1)
def lsN (f : Nat → Nat) (u : Nat) : Nat → Option Nat
  | 0 => none
  | j + 1 => if f j < u then some j else lsN f u j
theorem fsN_s (f : Nat → Nat) (h m i : Nat) : fsN f h (m + 1) i = if h ≤ f i then some i else fsN f h m (i + 1) := rfl
theorem lsN_s (f : Nat → Nat) (u j : Nat) : lsN f u (j + 1) = if f j < u then some j else lsN f u j := rfl
theorem fsN_some {f : Nat → Nat} {h : Nat} : ∀ m i j, fsN f h m i = some j → i ≤ j ∧ j < i + m ∧ h ≤ f j ∧ ∀ z, i ≤ z → z < j → f z < h := by
  intro m
  induction m with
  | zero => intro i j e; cases e
  | succ m ih =>
    intro i j e
    unfold fsN at e
    split at e
    · rename_i q; cases e; exact ⟨Nat.le_refl _, by omega, q, fun z h1 h2 => by omega⟩
    · rename_i q
      obtain ⟨a1, a2, a3, a4⟩ := ih (i + 1) j e
      refine ⟨by omega, by omega, a3, fun z h1 h2 => ?_⟩
      by_cases e2 : z = i
      · subst e2; omega
      · exact a4 z (by omega) h2
theorem fsN_none {f : Nat → Nat} {h : Nat} : ∀ m i, fsN f h m i = none → ∀ z, i ≤ z → z < i + m → f z < h := by
  intro m
  induction m with
  | zero => intro i _ z h1 h2; omega
  | succ m ih =>
    intro i e z h1 h2
    unfold fsN at e
    split at e
    · cases e
    · by_cases e2 : z = i
      · subst e2; omega
      · exact ih (i + 1) e z (by omega) (by omega)
theorem lsN_some {f : Nat → Nat} {u : Nat} : ∀ m j, lsN f u m = some j → j < m ∧ f j < u ∧ ∀ z, j < z → z < m → u ≤ f z := by
  intro m
  induction m with
  | zero => intro j e; cases e
  | succ m ih =>
    intro j e
    unfold lsN at e
    split at e
    · rename_i q; cases e; exact ⟨by omega, q, fun z h1 h2 => by omega⟩
    · obtain ⟨a1, a2, a3⟩ := ih j e
      refine ⟨by omega, a2, fun z h1 h2 => ?_⟩
      by_cases e2 : z = m
      · subst e2; omega
      · exact a3 z h1 (by omega)
theorem lsN_none {f : Nat → Nat} {u : Nat} : ∀ m, lsN f u m = none → ∀ z, z < m → u ≤ f z := by
  intro m
  induction m with
  | zero => intro _ z h; omega
  | succ m ih =>
    intro e z h
    unfold lsN at e
    split at e
    · cases e
    · by_cases e2 : z = m
      · subst e2; omega
      · exact ih e z (by omega)
/-- where the papers ahead leave off, where those behind begin -/
def lo (nn : dN) (g : dG) : Nat → Option Nat
  | 0 => some 0
  | p + 1 => match lo nn g p with
    | none => none
    | some h => match fsN (g p) h (nn p) 0 with
      | none => none
      | some j => some (g p j + 1)
def hi (nn : dN) (g : dG) : Nat → Nat → Option Nat
  | 0, _ => some 73000
  | k + 1, p => match hi nn g k (p + 1) with
    | none => none
    | some u => match lsN (g p) u (nn p) with
      | none => none
      | some j => some (g p j)
theorem lo_none {nn : dN} {g : dG} : ∀ {m p : Nat}, lo nn g p = none → lo nn g (p + m) = none := by
  intro m
  induction m with
  | zero => intro p h; exact h
  | succ m ih =>
    intro p h
    have e := ih h
    show lo nn g (p + m + 1) = none
    unfold lo
    rw [e]
theorem hi_none {nn : dN} {g : dG} : ∀ {m k p : Nat}, hi nn g k (p + m) = none → hi nn g (k + m) p = none := by
  intro m
  induction m with
  | zero => intro k p h; exact h
  | succ m ih =>
    intro k p h
    have e : hi nn g (k + m) (p + 1) = none := ih (k := k) (p := p + 1) (by rw [show p + 1 + m = p + (m + 1) by omega]; exact h)
    show hi nn g (k + m + 1) p = none
    unfold hi
    rw [e]
def srt (nn : dN) (g : dG) : Prop := ∀ p i j, i < j → j < nn p → g p i < g p j
theorem lo_iff {nn : dN} {g : dG} (hs : srt nn g) : ∀ p x, 0 < fw nn g p x ↔ ∃ h, lo nn g p = some h ∧ h ≤ x := by
  intro p
  induction p with
  | zero => intro x; exact ⟨fun _ => ⟨0, rfl, Nat.zero_le _⟩, fun _ => Nat.one_pos⟩
  | succ p ih =>
    intro x
    constructor
    · intro h
      obtain ⟨i, h1, h2⟩ := sg_pos.mp h
      by_cases q : g p i < x
      · rw [if_pos q] at h2
        obtain ⟨u, hu, hle⟩ := (ih _).mp h2
        unfold lo
        rw [hu]
        dsimp only
        cases hf : fsN (g p) u (nn p) 0 with
        | none => exact absurd (fsN_none _ _ hf i (by omega) (by omega)) (by omega)
        | some j =>
          obtain ⟨a1, a2, a3, a4⟩ := fsN_some _ _ _ hf
          refine ⟨_, rfl, ?_⟩
          by_cases q2 : i < j
          · exact absurd (a4 i (by omega) q2) (by omega)
          · by_cases q3 : i = j
            · subst q3; omega
            · have := hs p j i (by omega) h1
              omega
      · rw [if_neg q] at h2; exact absurd h2 (Nat.lt_irrefl 0)
    · intro ⟨h, e, hle⟩
      unfold lo at e
      cases hl : lo nn g p with
      | none => rw [hl] at e; cases e
      | some u =>
        rw [hl] at e
        dsimp only at e
        cases hf : fsN (g p) u (nn p) 0 with
        | none => rw [hf] at e; cases e
        | some j =>
          rw [hf] at e
          cases e
          obtain ⟨a1, a2, a3, a4⟩ := fsN_some _ _ _ hf
          refine sg_pos.mpr ⟨j, by omega, ?_⟩
          rw [if_pos (by omega)]
          exact (ih _).mpr ⟨u, hl, a3⟩
theorem hi_iff {nn : dN} {g : dG} (hs : srt nn g) (hX : ∀ p i, i < nn p → g p i < 73000) : ∀ k p h, h ≤ 73000 → (0 < bw nn g k p h ↔ ∃ u, hi nn g k p = some u ∧ h ≤ u) := by
  intro k
  induction k with
  | zero => intro p h hh; exact ⟨fun _ => ⟨73000, rfl, hh⟩, fun _ => Nat.one_pos⟩
  | succ k ih =>
    intro p h hh
    constructor
    · intro hb
      obtain ⟨i, h1, h2⟩ := sg_pos.mp hb
      by_cases q : h ≤ g p i
      · rw [if_pos q] at h2
        obtain ⟨u, hu, hle⟩ := (ih _ _ (by have := hX p i h1; omega)).mp h2
        unfold hi
        rw [hu]
        dsimp only
        cases hf : lsN (g p) u (nn p) with
        | none => exact absurd (lsN_none _ hf i h1) (by omega)
        | some j =>
          obtain ⟨a1, a2, a3⟩ := lsN_some _ _ hf
          refine ⟨_, rfl, ?_⟩
          by_cases q2 : j < i
          · exact absurd (a3 i q2 h1) (by omega)
          · by_cases q3 : i = j
            · subst q3; omega
            · have := hs p i j (by omega) a1
              omega
      · rw [if_neg q] at h2; exact absurd h2 (Nat.lt_irrefl 0)
    · intro ⟨v, e, hle⟩
      unfold hi at e
      cases hl : hi nn g k (p + 1) with
      | none => rw [hl] at e; cases e
      | some u =>
        rw [hl] at e
        dsimp only at e
        cases hf : lsN (g p) u (nn p) with
        | none => rw [hf] at e; cases e
        | some j =>
          rw [hf] at e
          cases e
          obtain ⟨a1, a2, a3⟩ := lsN_some _ _ hf
          refine sg_pos.mpr ⟨j, a1, ?_⟩
          rw [if_pos hle]
          exact (ih _ _ (by have := hX p j a1; omega)).mpr ⟨u, hl, by omega⟩
/-- the best of the days that stand in rows: the first (w = 0), or the last (w = 1) -/
def spL (P : Nat → Prop) [DecidablePred P] (w : Nat) : Nat → Option Nat
  | 0 => none
  | i + 1 => if P i then (match spL P w i with
      | none => some i
      | some j => if w = 1 then some i else some j) else spL P w i
theorem spL_none {P : Nat → Prop} [DecidablePred P] {w : Nat} : ∀ n, (∀ i, i < n → ¬ P i) → spL P w n = none := by
  intro n
  induction n with
  | zero => intro _; rfl
  | succ n ih =>
    intro h
    unfold spL
    rw [if_neg (h n (by omega))]
    exact ih (fun i hi => h i (by omega))
theorem spL_lt {P : Nat → Prop} [DecidablePred P] {w : Nat} : ∀ n j, spL P w n = some j → j < n := by
  intro n
  induction n with
  | zero => intro j h; cases h
  | succ n ih =>
    intro j h
    unfold spL at h
    split at h
    · split at h
      · cases h; omega
      · rename_i j0 e
        have := ih _ e
        split at h
        · cases h; omega
        · cases h; omega
    · have := ih _ h
      omega
theorem spL_first {P : Nat → Prop} [DecidablePred P] {j : Nat} (hj : P j) (hf : ∀ i, i < j → ¬ P i) : ∀ n, j < n → spL P 0 n = some j := by
  intro n
  induction n with
  | zero => intro h; omega
  | succ n ih =>
    intro h
    unfold spL
    by_cases e : j = n
    · subst e
      rw [if_pos hj, spL_none _ hf]
    · have e2 := ih (by omega)
      by_cases q : P n
      · rw [if_pos q, e2]; rfl
      · rw [if_neg q]; exact e2
theorem spL_last {P : Nat → Prop} [DecidablePred P] {j : Nat} (hj : P j) : ∀ n, j < n → (∀ i, j < i → i < n → ¬ P i) → spL P 1 n = some j := by
  intro n
  induction n with
  | zero => intro h; omega
  | succ n ih =>
    intro h hl
    unfold spL
    by_cases e : j = n
    · subst e
      rw [if_pos hj]
      cases spL P 1 j <;> rfl
    · rw [if_neg (hl n (by omega) (by omega))]
      exact ih (by omega) (fun i h1 h2 => hl i h1 (by omega))
/-- both ways to the span of a paper -/
abbrev inR (nn : dN) (g : dG) (n p i : Nat) : Prop := 0 < fw nn g p (g p i) ∧ 0 < bw nn g (n - 1 - p) (p + 1) (g p i + 1)
theorem in_ex {nn : dN} {g : dG} (hX : ∀ p i, i < nn p → g p i < 73000) {n p : Nat} (hp : p < n) : 0 < fw nn g n 73000 ↔ ∃ i, i < nn p ∧ inR nn g n p i := by
  rw [fb_total (fun p i _ hi => hX p i hi)]
  have e := fb_all nn g p (n - 1 - p)
  rw [show p + (n - 1 - p) + 1 = n by omega] at e
  rw [← e, sg_pos]
  constructor
  · intro ⟨i, h1, h2⟩
    exact ⟨i, h1, Nat.pos_of_mul_pos_right h2, Nat.pos_of_mul_pos_left h2⟩
  · intro ⟨i, h1, h2, h3⟩
    exact ⟨i, h1, Nat.mul_pos h2 h3⟩
theorem span_no {nn : dN} {g : dG} (hs : srt nn g) (hX : ∀ p i, i < nn p → g p i < 73000) {n p w : Nat} (hp : p < n) (h : lo nn g n = none) : spL (inR nn g n p) w (nn p) = none := by
  refine spL_none _ (fun i hi q => ?_)
  obtain ⟨u, hu, -⟩ := (lo_iff hs n 73000).mp ((in_ex hX hp).mpr ⟨i, hi, q⟩)
  rw [h] at hu; cases hu
theorem lo_all {nn : dN} {g : dG} {n p h : Nat} (hp : p ≤ n) (hn : lo nn g n = some h) : ∃ u, lo nn g p = some u := by
  cases e : lo nn g p with
  | none =>
    have := lo_none (m := n - p) e
    rw [show p + (n - p) = n by omega, hn] at this
    cases this
  | some u => exact ⟨u, rfl⟩
theorem lo_le {nn : dN} {g : dG} (hs : srt nn g) (hX : ∀ p i, i < nn p → g p i < 73000) {n h : Nat} (hn : lo nn g n = some h) : h ≤ 73000 := by
  cases n with
  | zero => cases hn; exact Nat.zero_le _
  | succ p =>
    unfold lo at hn
    cases hl : lo nn g p with
    | none => rw [hl] at hn; cases hn
    | some u =>
      rw [hl] at hn
      dsimp only at hn
      cases hf : fsN (g p) u (nn p) 0 with
      | none => rw [hf] at hn; cases hn
      | some j =>
        rw [hf] at hn
        cases hn
        obtain ⟨a1, a2, a3, a4⟩ := fsN_some _ _ _ hf
        have := hX p j (by omega)
        omega
/-- the least: the class's h - 1 -/
theorem span_lo {nn : dN} {g : dG} (hs : srt nn g) (hX : ∀ p i, i < nn p → g p i < 73000) {n p h : Nat} (hp : p < n) (hn : lo nn g n = some h) : ∃ j, j < nn p ∧ lo nn g (p + 1) = some (g p j + 1) ∧ spL (inR nn g n p) 0 (nn p) = some j := by
  obtain ⟨u, hu⟩ := lo_all (p := p) (by omega) hn
  obtain ⟨u1, hu1⟩ := lo_all (p := p + 1) (by omega) hn
  have e := hu1
  unfold lo at e
  rw [hu] at e
  dsimp only at e
  cases hf : fsN (g p) u (nn p) 0 with
  | none => rw [hf] at e; cases e
  | some j =>
    rw [hf] at e
    obtain ⟨a1, a2, a3, a4⟩ := fsN_some _ _ _ hf
    refine ⟨j, by omega, by rw [hu1, ← e], spL_first ?_ (fun i hi q => ?_) _ (by omega)⟩
    · refine ⟨(lo_iff hs _ _).mpr ⟨u, hu, a3⟩, ?_⟩
      obtain ⟨i, hi, q1, q2⟩ := (in_ex hX hp).mp ((lo_iff hs n 73000).mpr ⟨h, hn, lo_le hs hX hn⟩)
      refine bw_mono ?_ q2
      obtain ⟨u2, hu2, hle⟩ := (lo_iff hs _ _).mp q1
      rw [hu] at hu2; cases hu2
      by_cases q3 : i < j
      · exact absurd (a4 i (by omega) q3) (by omega)
      · by_cases q4 : i = j
        · subst q4; omega
        · have := hs p j i (by omega) hi
          omega
    · obtain ⟨u2, hu2, hle⟩ := (lo_iff hs _ _).mp q.1
      rw [hu] at hu2; cases hu2
      exact absurd (a4 i (by omega) hi) (by omega)
theorem span_hi {nn : dN} {g : dG} (hs : srt nn g) (hX : ∀ p i, i < nn p → g p i < 73000) {n p h : Nat} (hp : p < n) (hn : lo nn g n = some h) : (∃ u, hi nn g n 0 = some u) ∧ ∃ j, j < nn p ∧ hi nn g (n - p) p = some (g p j) ∧ spL (inR nn g n p) 1 (nn p) = some j := by
  have hT := (lo_iff hs n 73000).mpr ⟨h, hn, lo_le hs hX hn⟩
  have hB : 0 < bw nn g n 0 0 := by rw [← fb_total (fun p i _ hi => hX p i hi)]; exact hT
  obtain ⟨u0, hu0, -⟩ := (hi_iff hs hX n 0 0 (by omega)).mp hB
  refine ⟨⟨u0, hu0⟩, ?_⟩
  have some_at : ∀ q, q ≤ n → ∃ u, hi nn g (n - q) q = some u := by
    intro q hq
    cases e : hi nn g (n - q) q with
    | none =>
      have := hi_none (m := q) (k := n - q) (p := 0) (by rw [Nat.zero_add]; exact e)
      rw [show n - q + q = n by omega, hu0] at this
      cases this
    | some u => exact ⟨u, rfl⟩
  obtain ⟨u, hu⟩ := some_at (p + 1) (by omega)
  obtain ⟨u1, hu1⟩ := some_at p (by omega)
  have e := hu1
  rw [show n - p = (n - (p + 1)) + 1 by omega] at e
  unfold hi at e
  rw [hu] at e
  dsimp only at e
  cases hf : lsN (g p) u (nn p) with
  | none => rw [hf] at e; cases e
  | some j =>
    rw [hf] at e
    obtain ⟨a1, a2, a3⟩ := lsN_some _ _ hf
    have kk : n - 1 - p = n - (p + 1) := by omega
    refine ⟨j, a1, by rw [hu1, ← e], spL_last ?_ _ a1 (fun i h1 h2 q => ?_)⟩
    · refine ⟨?_, by rw [kk]; exact (hi_iff hs hX _ _ _ (by have := hX p j a1; omega)).mpr ⟨u, hu, by omega⟩⟩
      obtain ⟨i, hi', q1, q2⟩ := (in_ex hX hp).mp hT
      refine fw_mono ?_ q1
      rw [kk] at q2
      obtain ⟨u2, hu2, hle⟩ := (hi_iff hs hX _ _ _ (by have := hX p i hi'; omega)).mp q2
      rw [hu] at hu2; cases hu2
      by_cases q3 : j < i
      · exact absurd (a3 i q3 hi') (by omega)
      · by_cases q4 : i = j
        · subst q4; omega
        · have := hs p i j (by omega) a1
          omega
    · have q2 := q.2
      rw [kk] at q2
      obtain ⟨u2, hu2, hle⟩ := (hi_iff hs hX _ _ _ (by have := hX p i h2; omega)).mp q2
      rw [hu] at hu2; cases hu2
      exact absurd (a3 i h1 h2) (by omega)
