/-! ===== the grammar of texts: what is read from a byte on ===== -/
abbrev PR : Type := Bool × Nat × List (Nat × Nat)
abbrev isg (lvl c : Nat) : Prop := (lvl = 0 ∧ c = 124) ∨ (lvl = 1 ∧ c = 38) ∨ (lvl = 2 ∧ (c = 60 ∨ c = 61 ∨ c = 62)) ∨ (lvl = 3 ∧ (c = 43 ∨ c = 45)) ∨ (lvl = 4 ∧ (c = 42 ∨ c = 47 ∨ c = 37))
abbrev isD (c : Nat) : Prop := 48 ≤ c ∧ c ≤ 57
def nix (u c : Nat) : Option Nat := if c = nmC u 0 then some 0 else if c = nmC u 1 then some 1 else if c = nmC u 2 then some 2 else none
def rdN (t : Nat → Nat) (n : Nat) : Nat → Nat → Nat → Nat × Nat
  | 0, a, v => (a, v)
  | k + 1, a, v => if a < n ∧ isD (t a) then rdN t n k (a + 1) (10 * v + (t a - 48)) else (a, v)
def sq1 (r : PR) (k : Nat → PR) : PR := if r.1 = true then ((k r.2.1).1, (k r.2.1).2.1, r.2.2 ++ (k r.2.1).2.2) else (false, r.2.1, [])
def sq2 (r : PR) : PR := if r.1 = true then (true, r.2.1, r.2.2 ++ [(2, 0)]) else (false, r.2.1, [])
def sq3 (t : Nat → Nat) (n : Nat) (r : PR) : PR := if r.1 = true ∧ r.2.1 < n ∧ t r.2.1 = 41 then (true, r.2.1 + 1, r.2.2) else (false, r.2.1, [])
def sq4 (c : Nat) (r : PR) (k : Nat → PR) : PR := if r.1 = true then ((k r.2.1).1, (k r.2.1).2.1, r.2.2 ++ (3, c) :: (k r.2.1).2.2) else (false, r.2.1, [])
def on1 (t : Nat → Nat) (n u o a : Nat) (p5 p0 : PR) : PR :=
  if a < n then
    (if isD (t a) then (true, (rdN t n 4 a 0).1, [(0, (rdN t n 4 a 0).2)])
     else (match nix u (t a) with
      | some i => (true, a + 1, [(1, i)])
      | none => if o < 5 then (if t a = 33 then sq2 p5 else if t a = 40 then sq3 t n p0 else (false, a, [])) else (false, a, [])))
  else (false, a, [])
def pz (t : Nat → Nat) (n u : Nat) : Nat → Nat → Nat → Nat → Nat → PR
  | 0, _, _, _, a => (false, a, [])
  | F + 1, code, o, cnt, a =>
    if code < 5 then sq1 (pz t n u F (code + 1) o 0 a) (fun a' => pz t n u F (10 + code) o 1 a')
    else if code = 5 then on1 t n u o a (pz t n u F 5 (o + 1) 0 (a + 1)) (pz t n u F 0 (o + 1) 0 (a + 1))
    else (if cnt = 1 ∧ a < n ∧ isg (code - 10) (t a) then sq4 (t a) (pz t n u F (code - 9) o 0 (a + 1)) (fun a' => pz t n u F code o (if code = 12 then 0 else 1) a') else (true, a, []))
theorem pz_c {t : Nat → Nat} {n u F code o cnt a : Nat} (h : code < 5) : pz t n u (F + 1) code o cnt a = sq1 (pz t n u F (code + 1) o 0 a) (fun a' => pz t n u F (10 + code) o 1 a') := if_pos h
theorem pz_1 {t : Nat → Nat} {n u F o cnt a : Nat} : pz t n u (F + 1) 5 o cnt a = on1 t n u o a (pz t n u F 5 (o + 1) 0 (a + 1)) (pz t n u F 0 (o + 1) 0 (a + 1)) := by
  show (if 5 < 5 then _ else if 5 = 5 then _ else _) = _
  rw [if_neg (by decide), if_pos rfl]
theorem pz_l {t : Nat → Nat} {n u F code o cnt a : Nat} (h : 10 ≤ code) : pz t n u (F + 1) code o cnt a = (if cnt = 1 ∧ a < n ∧ isg (code - 10) (t a) then sq4 (t a) (pz t n u F (code - 9) o 0 (a + 1)) (fun a' => pz t n u F code o (if code = 12 then 0 else 1) a') else (true, a, [])) := by
  show (if code < 5 then _ else if code = 5 then _ else _) = _
  rw [if_neg (by omega), if_neg (by omega)]
/-- how many values stand behind the steps -/
def dep : List (Nat × Nat) → Nat → Option Nat
  | [], d => some d
  | s :: L, d => if s.1 = 0 ∨ s.1 = 1 then dep L (d + 1) else if s.1 = 2 then (if 1 ≤ d then dep L d else none) else (if 2 ≤ d then dep L (d - 1) else none)
theorem dep_app {K : List (Nat × Nat)} : ∀ {L : List (Nat × Nat)} {d e : Nat}, dep L d = some e → dep (L ++ K) d = dep K e := by
  intro L
  induction L with
  | nil => intro d e h; cases h; rfl
  | cons s L ih =>
    intro d e h
    show (if s.1 = 0 ∨ s.1 = 1 then dep (L ++ K) (d + 1) else if s.1 = 2 then (if 1 ≤ d then dep (L ++ K) d else none) else (if 2 ≤ d then dep (L ++ K) (d - 1) else none)) = _
    have h : (if s.1 = 0 ∨ s.1 = 1 then dep L (d + 1) else if s.1 = 2 then (if 1 ≤ d then dep L d else none) else (if 2 ≤ d then dep L (d - 1) else none)) = some e := h
    by_cases q1 : s.1 = 0 ∨ s.1 = 1
    · rw [if_pos q1] at h ⊢; exact ih h
    · rw [if_neg q1] at h ⊢
      by_cases q2 : s.1 = 2
      · rw [if_pos q2] at h ⊢
        by_cases q3 : 1 ≤ d
        · rw [if_pos q3] at h ⊢; exact ih h
        · rw [if_neg q3] at h; cases h
      · rw [if_neg q2] at h ⊢
        by_cases q3 : 2 ≤ d
        · rw [if_pos q3] at h ⊢; exact ih h
        · rw [if_neg q3] at h; cases h
def okS (s : Nat × Nat) : Prop := (s.1 = 0 ∧ s.2 ≤ 9999) ∨ (s.1 = 1 ∧ s.2 < 3) ∨ (s.1 = 2 ∧ s.2 = 0) ∨ (s.1 = 3 ∧ isSign s.2)
def GD (n code a : Nat) (r : PR) : Prop := a ≤ r.2.1 ∧ r.2.1 ≤ n ∧ r.2.2.length ≤ r.2.1 - a ∧ (∀ s, s ∈ r.2.2 → okS s) ∧ (r.1 = true → (code ≤ 5 → a < r.2.1 ∧ ∀ d, dep r.2.2 d = some (d + 1)) ∧ (¬ code ≤ 5 → ∀ d, 1 ≤ d → dep r.2.2 d = some d))
theorem GD_no {n code a a' : Nat} (h1 : a ≤ a') (h2 : a' ≤ n) : GD n code a (false, a', []) := by
  refine ⟨h1, h2, Nat.zero_le _, ?_, ?_⟩
  · intro s hs; cases hs
  · intro h; cases h
theorem rdN_at {t : Nat → Nat} {n : Nat} : ∀ k a v, a ≤ n → a ≤ (rdN t n k a v).1 ∧ (rdN t n k a v).1 ≤ n ∧ (rdN t n k a v).2 + 1 ≤ (v + 1) * 10 ^ k := by
  intro k
  induction k with
  | zero => intro a v h; exact ⟨Nat.le_refl _, h, by show v + 1 ≤ (v + 1) * 1; omega⟩
  | succ k ih =>
    intro a v h
    unfold rdN
    by_cases q : a < n ∧ isD (t a)
    · rw [if_pos q]
      obtain ⟨g1, g2, g3⟩ := ih (a + 1) (10 * v + (t a - 48)) (by omega)
      refine ⟨by omega, g2, Nat.le_trans g3 ?_⟩
      rw [Nat.pow_succ, Nat.mul_comm (10 ^ k) 10, ← Nat.mul_assoc]
      have := q.2.2
      exact Nat.mul_le_mul_right _ (by omega)
    · rw [if_neg q]
      refine ⟨Nat.le_refl _, h, ?_⟩
      have : 1 ≤ 10 ^ (k + 1) := Nat.one_le_pow _ _ (by decide)
      exact Nat.le_trans (Nat.le_of_eq (Nat.mul_one _).symm) (Nat.mul_le_mul_left _ this)
theorem rdN_go {t : Nat → Nat} {n a : Nat} (h : a < n) (hd : isD (t a)) : a < (rdN t n 4 a 0).1 := by
  unfold rdN
  rw [if_pos ⟨h, hd⟩]
  exact (rdN_at (t := t) (n := n) 3 (a + 1) (10 * 0 + (t a - 48)) h).1
theorem nix_lt {u c i : Nat} (h : nix u c = some i) : i < 3 ∧ c = nmC u i := by
  unfold nix at h
  split at h
  · cases h; exact ⟨by decide, by assumption⟩
  · split at h
    · cases h; exact ⟨by decide, by assumption⟩
    · split at h
      · cases h; exact ⟨by decide, by assumption⟩
      · cases h
theorem isg_sign {l c : Nat} (h : isg l c) : isSign c := by
  unfold isSign
  rcases h with ⟨_, h⟩ | ⟨_, h⟩ | ⟨_, h⟩ | ⟨_, h⟩ | ⟨_, h⟩ <;> omega
theorem GD_sq1 {n code a : Nat} {r : PR} {k : Nat → PR} (h : code < 5) (hr : GD n (code + 1) a r) (hk : ∀ a', a' ≤ n → GD n (10 + code) a' (k a')) : GD n code a (sq1 r k) := by
  obtain ⟨rb, ra, rs⟩ := r
  obtain ⟨r1, r2, r3, r4, r5⟩ := hr
  have r1 : a ≤ ra := r1
  have r2 : ra ≤ n := r2
  have r3 : rs.length ≤ ra - a := r3
  cases rb with
  | false => exact GD_no r1 r2
  | true =>
    have hk := hk ra r2
    have e : sq1 (true, ra, rs) k = ((k ra).1, (k ra).2.1, rs ++ (k ra).2.2) := if_pos rfl
    rw [e]
    revert hk
    generalize k ra = q
    obtain ⟨qb, qa, qs⟩ := q
    intro hk
    obtain ⟨s1, s2, s3, s4, s5⟩ := hk
    have s1 : ra ≤ qa := s1
    have s2 : qa ≤ n := s2
    have s3 : qs.length ≤ qa - ra := s3
    obtain ⟨q1, q2⟩ := (r5 rfl).1 (by omega)
    have q1 : a < ra := q1
    refine ⟨by show a ≤ qa; omega, s2, ?_, ?_, ?_⟩
    · show (rs ++ qs).length ≤ qa - a
      rw [List.length_append]; omega
    · intro s hs
      rcases List.mem_append.mp hs with hs | hs
      · exact r4 s hs
      · exact s4 s hs
    · intro hb
      refine ⟨fun _ => ⟨by show a < qa; omega, fun d => ?_⟩, fun hn => absurd (Nat.le_of_lt h) hn⟩
      show dep (rs ++ qs) d = some (d + 1)
      rw [dep_app (q2 d)]
      exact (s5 hb).2 (by omega) (d + 1) (by omega)
theorem GD_sq2 {n a : Nat} {r : PR} (hr : GD n 5 (a + 1) r) : GD n 5 a (sq2 r) := by
  obtain ⟨rb, ra, rs⟩ := r
  obtain ⟨r1, r2, r3, r4, r5⟩ := hr
  have r1 : a + 1 ≤ ra := r1
  have r2 : ra ≤ n := r2
  have r3 : rs.length ≤ ra - (a + 1) := r3
  cases rb with
  | false => exact GD_no (by omega) r2
  | true =>
    rw [show sq2 (true, ra, rs) = (true, ra, rs ++ [(2, 0)]) from if_pos rfl]
    obtain ⟨q1, q2⟩ := (r5 rfl).1 (by omega)
    refine ⟨by show a ≤ ra; omega, r2, ?_, ?_, ?_⟩
    · show (rs ++ [(2, 0)]).length ≤ ra - a
      rw [List.length_append]
      show rs.length + 1 ≤ ra - a
      omega
    · intro s hs
      rcases List.mem_append.mp hs with hs | hs
      · exact r4 s hs
      · rw [List.mem_singleton] at hs
        subst hs
        exact .inr (.inr (.inl ⟨rfl, rfl⟩))
    · intro _
      refine ⟨fun _ => ⟨by show a < ra; omega, fun d => ?_⟩, fun hn => absurd (Nat.le_refl 5) hn⟩
      show dep (rs ++ [(2, 0)]) d = some (d + 1)
      rw [dep_app (q2 d)]
      show (if 1 ≤ d + 1 then some (d + 1) else none) = some (d + 1)
      rw [if_pos (by omega)]
theorem GD_sq3 {t : Nat → Nat} {n a : Nat} {r : PR} (hr : GD n 0 (a + 1) r) : GD n 5 a (sq3 t n r) := by
  obtain ⟨rb, ra, rs⟩ := r
  obtain ⟨r1, r2, r3, r4, r5⟩ := hr
  have r1 : a + 1 ≤ ra := r1
  have r2 : ra ≤ n := r2
  have r3 : rs.length ≤ ra - (a + 1) := r3
  unfold sq3
  by_cases q : (rb, ra, rs).1 = true ∧ (rb, ra, rs).2.1 < n ∧ t (rb, ra, rs).2.1 = 41
  · rw [if_pos q]
    have q3 : ra < n := q.2.1
    obtain ⟨q1, q2⟩ := (r5 q.1).1 (by omega)
    refine ⟨by show a ≤ ra + 1; omega, by show ra + 1 ≤ n; omega, by show rs.length ≤ ra + 1 - a; omega, r4, ?_⟩
    intro _
    exact ⟨fun _ => ⟨by show a < ra + 1; omega, q2⟩, fun hn => absurd (Nat.le_refl 5) hn⟩
  · rw [if_neg q]
    exact GD_no (by show a ≤ ra; omega) r2
theorem GD_sq4 {n code a c : Nat} {r : PR} {k : Nat → PR} (hl : isg (code - 10) c) (h : 10 ≤ code ∧ code ≤ 14) (hr : GD n (code - 9) (a + 1) r) (hk : ∀ a', a' ≤ n → GD n code a' (k a')) : GD n code a (sq4 c r k) := by
  obtain ⟨rb, ra, rs⟩ := r
  obtain ⟨r1, r2, r3, r4, r5⟩ := hr
  have r1 : a + 1 ≤ ra := r1
  have r2 : ra ≤ n := r2
  have r3 : rs.length ≤ ra - (a + 1) := r3
  cases rb with
  | false => exact GD_no (by omega) r2
  | true =>
    have hk := hk ra r2
    have e : sq4 c (true, ra, rs) k = ((k ra).1, (k ra).2.1, rs ++ (3, c) :: (k ra).2.2) := if_pos rfl
    rw [e]
    revert hk
    generalize k ra = q
    obtain ⟨qb, qa, qs⟩ := q
    intro hk
    obtain ⟨s1, s2, s3, s4, s5⟩ := hk
    have s1 : ra ≤ qa := s1
    have s2 : qa ≤ n := s2
    have s3 : qs.length ≤ qa - ra := s3
    obtain ⟨q1, q2⟩ := (r5 rfl).1 (by omega)
    refine ⟨by show a ≤ qa; omega, s2, ?_, ?_, ?_⟩
    · show (rs ++ (3, c) :: qs).length ≤ qa - a
      rw [List.length_append, List.length_cons]; omega
    · intro s hs
      rcases List.mem_append.mp hs with hs | hs
      · exact r4 s hs
      · rcases List.mem_cons.mp hs with hs | hs
        · subst hs
          exact .inr (.inr (.inr ⟨rfl, isg_sign hl⟩))
        · exact s4 s hs
    · intro hb
      refine ⟨fun hc5 => absurd hc5 (by omega), fun _ d hd => ?_⟩
      show dep (rs ++ (3, c) :: qs) d = some d
      rw [dep_app (q2 d)]
      show (if 2 ≤ d + 1 then dep qs (d + 1 - 1) else none) = some d
      rw [if_pos (by omega), Nat.add_sub_cancel]
      exact (s5 hb).2 (by omega) d hd
theorem GD_on1 {t : Nat → Nat} {n u o a : Nat} {p5 p0 : PR} (ha : a ≤ n) (h5 : a < n → GD n 5 (a + 1) p5) (h0 : a < n → GD n 0 (a + 1) p0) : GD n 5 a (on1 t n u o a p5 p0) := by
  unfold on1
  by_cases hn : a < n
  · rw [if_pos hn]
    by_cases hd : isD (t a)
    · rw [if_pos hd]
      obtain ⟨g1, g2, g3⟩ := rdN_at (t := t) (n := n) 4 a 0 (by omega)
      have g4 := rdN_go hn hd
      refine ⟨g1, g2, by show 1 ≤ (rdN t n 4 a 0).1 - a; omega, ?_, ?_⟩
      · intro s hs
        have hs : s ∈ [((0 : Nat), (rdN t n 4 a 0).2)] := hs
        rw [List.mem_singleton] at hs
        subst hs
        exact .inl ⟨rfl, by show (rdN t n 4 a 0).2 ≤ 9999; omega⟩
      · intro _
        exact ⟨fun _ => ⟨g4, fun d => rfl⟩, fun hk => absurd (Nat.le_refl 5) hk⟩
    · rw [if_neg hd]
      cases hx : nix u (t a) with
      | some i =>
        refine ⟨by show a ≤ a + 1; omega, by show a + 1 ≤ n; omega, by show 1 ≤ a + 1 - a; omega, ?_, ?_⟩
        · intro s hs
          have hs : s ∈ [((1 : Nat), i)] := hs
          rw [List.mem_singleton] at hs
          subst hs
          exact .inr (.inl ⟨rfl, (nix_lt hx).1⟩)
        · intro _
          exact ⟨fun _ => ⟨by show a < a + 1; omega, fun d => rfl⟩, fun hk => absurd (Nat.le_refl 5) hk⟩
      | none =>
        dsimp only
        by_cases ho : o < 5
        · rw [if_pos ho]
          by_cases e1 : t a = 33
          · rw [if_pos e1]; exact GD_sq2 (h5 hn)
          · rw [if_neg e1]
            by_cases e2 : t a = 40
            · rw [if_pos e2]; exact GD_sq3 (h0 hn)
            · rw [if_neg e2]; exact GD_no (Nat.le_refl _) ha
        · rw [if_neg ho]; exact GD_no (Nat.le_refl _) ha
  · rw [if_neg hn]; exact GD_no (Nat.le_refl _) ha
theorem pzP {t : Nat → Nat} {n u : Nat} : ∀ F code o cnt a, a ≤ n → (code ≤ 5 ∨ (10 ≤ code ∧ code ≤ 14)) → GD n code a (pz t n u F code o cnt a) := by
  intro F
  induction F with
  | zero => intro code o cnt a ha _; exact GD_no (Nat.le_refl _) ha
  | succ F ih =>
    intro code o cnt a ha hc
    rcases (show code < 5 ∨ code = 5 ∨ (10 ≤ code ∧ code ≤ 14) by omega) with h | rfl | h
    · rw [pz_c h]
      exact GD_sq1 h (ih (code + 1) o 0 a ha (by omega)) (fun a' ha' => ih (10 + code) o 1 a' ha' (by omega))
    · rw [pz_1]
      exact GD_on1 ha (fun hn => ih 5 (o + 1) 0 (a + 1) hn (by omega)) (fun hn => ih 0 (o + 1) 0 (a + 1) hn (by omega))
    · rw [pz_l h.1]
      by_cases q0 : cnt = 1 ∧ a < n ∧ isg (code - 10) (t a)
      · rw [if_pos q0]
        exact GD_sq4 q0.2.2 h (ih (code - 9) o 0 (a + 1) q0.2.1 (by omega)) (fun a' ha' => ih code o _ a' ha' (.inr h))
      · rw [if_neg q0]
        refine ⟨Nat.le_refl _, ha, Nat.zero_le _, ?_, ?_⟩
        · intro s hs; cases hs
        · intro _
          exact ⟨fun hc5 => absurd hc5 (by omega), fun _ d _ => rfl⟩
theorem dep_WF : ∀ (L : List (Nat × Nat)) (wh : Nat → Int32) (d e : Nat), dep L d = some e → (∀ s, s ∈ L → okS s) → (∀ k, k < L.length → wh k = nI (L.getD k (0, 0)).1) → ∃ D : Nat → Nat, D 0 = d ∧ D L.length = e ∧ ∀ k, k < L.length → (wh k = nI 0 ∨ wh k = nI 1 → D (k + 1) = D k + 1) ∧ (wh k = nI 2 → 1 ≤ D k ∧ D (k + 1) = D k) ∧ (wh k = nI 3 → 2 ≤ D k ∧ D (k + 1) + 1 = D k) := by
  intro L
  induction L with
  | nil =>
    intro wh d e h _ _
    cases h
    exact ⟨fun _ => d, rfl, rfl, fun k hk => absurd hk (Nat.not_lt_zero k)⟩
  | cons s L ih =>
    intro wh d e h hok hwh
    have h : (if s.1 = 0 ∨ s.1 = 1 then dep L (d + 1) else if s.1 = 2 then (if 1 ≤ d then dep L d else none) else (if 2 ≤ d then dep L (d - 1) else none)) = some e := h
    have w0 : wh 0 = nI s.1 := hwh 0 (Nat.succ_pos _)
    have ho := hok s List.mem_cons_self
    have hs4 : s.1 < 4 := by
      rcases ho with ⟨h, _⟩ | ⟨h, _⟩ | ⟨h, _⟩ | ⟨h, _⟩ <;> omega
    have step : ∀ d1, dep L d1 = some e → ((s.1 = 0 ∨ s.1 = 1) → d1 = d + 1) → (s.1 = 2 → 1 ≤ d ∧ d1 = d) → (s.1 = 3 → 2 ≤ d ∧ d1 + 1 = d) → ∃ D : Nat → Nat, D 0 = d ∧ D (s :: L).length = e ∧ ∀ k, k < (s :: L).length → (wh k = nI 0 ∨ wh k = nI 1 → D (k + 1) = D k + 1) ∧ (wh k = nI 2 → 1 ≤ D k ∧ D (k + 1) = D k) ∧ (wh k = nI 3 → 2 ≤ D k ∧ D (k + 1) + 1 = D k) := by
      intro d1 h1 c1 c2 c3
      obtain ⟨D, g1, g2, g3⟩ := ih (fun k => wh (k + 1)) d1 e h1 (fun s hs => hok s (List.mem_cons_of_mem _ hs)) (fun k hk => hwh (k + 1) (Nat.succ_lt_succ hk))
      refine ⟨fun k => match k with | 0 => d | k + 1 => D k, rfl, g2, fun k hk => ?_⟩
      cases k with
      | zero =>
        show (wh 0 = nI 0 ∨ wh 0 = nI 1 → D 0 = d + 1) ∧ (wh 0 = nI 2 → 1 ≤ d ∧ D 0 = d) ∧ (wh 0 = nI 3 → 2 ≤ d ∧ D 0 + 1 = d)
        rw [w0, g1]
        refine ⟨fun h => c1 ?_, fun h => c2 (nI_inj (by omega) (by decide) h), fun h => c3 (nI_inj (by omega) (by decide) h)⟩
        rcases h with h | h
        · exact .inl (nI_inj (by omega) (by decide) h)
        · exact .inr (nI_inj (by omega) (by decide) h)
      | succ k => exact g3 k (Nat.lt_of_succ_lt_succ hk)
    by_cases q1 : s.1 = 0 ∨ s.1 = 1
    · rw [if_pos q1] at h
      exact step (d + 1) h (fun _ => rfl) (fun e => by omega) (fun e => by omega)
    · rw [if_neg q1] at h
      by_cases q2 : s.1 = 2
      · rw [if_pos q2] at h
        by_cases q3 : 1 ≤ d
        · rw [if_pos q3] at h
          exact step d h (fun e => absurd e q1) (fun _ => ⟨q3, rfl⟩) (fun e => by omega)
        · rw [if_neg q3] at h; cases h
      · rw [if_neg q2] at h
        by_cases q3 : 2 ≤ d
        · rw [if_pos q3] at h
          exact step (d - 1) h (fun e => absurd e q1) (fun e => absurd e q2) (fun _ => ⟨q3, by omega⟩)
        · rw [if_neg q3] at h; cases h
