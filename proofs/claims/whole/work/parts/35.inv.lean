/-! ===== what binds the class's cells to the reference's row ===== -/
def N (s : Nat → Int32) (i : Nat) : Nat := (s i).toNatClampNeg
/-- things -/
abbrev tx (s : Nat → Int32) (w t : Nat) : Nat := N s (28 + 4 * t + w)
def VT (s : Nat → Int32) : Prop := s 1 = nI (N s 1) ∧ N s 1 ≤ 10 ∧ ∀ t, t < N s 1 → (∀ w, w < 4 → s (28 + 4 * t + w) = nI (tx s w t)) ∧ tx s 0 t < 7 ∧ tx s 1 t < 10 ∧ tx s 2 t < 4 ∧ tx s 3 t < 73000
/-- papers -/
abbrev px (s : Nat → Int32) (w p : Nat) : Nat := N s (68 + 2 * p + w)
def VP (s : Nat → Int32) : Prop := s 2 = nI (N s 2) ∧ N s 2 ≤ 8 ∧ ∀ p, p < N s 2 → (∀ w, w < 2 → s (68 + 2 * p + w) = nI (px s w p)) ∧ px s 0 p < 207 ∧ px s 1 p < 365
/-- now, the comet, the tape, what waits -/
def VC (s : Nat → Int32) : Prop := vp_in (s 3) 73000 ∧ (s 4 = -1 ∨ (vp_in (s 4) 73000 ∧ vp_in (s 5) 100 ∧ ¬ s 5 = 0)) ∧ vp_in (s 6) 61 ∧ (∀ k, k < N s 6 → vp_in (s (334 + k)) 256) ∧ vp_in (s 7) 25
/-- the names of a use -/
def nmC (u i : Nat) : Nat := if u = 0 then [98, 116, 109].getD i 0 else [97, 107, 109].getD i 0
def isSign (c : Nat) : Prop := c = 124 ∨ c = 38 ∨ c = 60 ∨ c = 61 ∨ c = 62 ∨ c = 43 ∨ c = 45 ∨ c = 42 ∨ c = 47 ∨ c = 37
/-- a step of a text: the class's number, the reference's two -/
def stepR (u : Nat) (c what v : Int32) : Prop := (what = nI 0 ∧ ∃ x, x ≤ 9999 ∧ v = nI x ∧ c = nI x) ∨ (what = nI 1 ∧ ∃ i, i < 3 ∧ v = nI (nmC u i) ∧ c = -nI (i + 1)) ∨ (what = nI 2 ∧ c = -nI 33) ∨ (what = nI 3 ∧ ∃ x, isSign x ∧ v = nI x ∧ c = -nI x)
/-- how many values stand behind each step -/
def WF (wh : Nat → Int32) (n e : Nat) : Prop := ∃ D : Nat → Nat, D 0 = 0 ∧ D n = e ∧ ∀ k, k < n → (wh k = nI 0 ∨ wh k = nI 1 → D (k + 1) = D k + 1) ∧ (wh k = nI 2 → 1 ≤ D k ∧ D (k + 1) = D k) ∧ (wh k = nI 3 → 2 ≤ D k ∧ D (k + 1) + 1 = D k)
def LAW (sz sd : Int32) (cd : Nat → Int32) (u : Nat) (s : Nat → Int32) : Prop := vp_in sz 61 ∧ ((s (84 + 125 * u) = 0 ∧ sd = 0) ∨ ∃ n, 1 ≤ n ∧ n ≤ 60 ∧ s (84 + 125 * u) = nI n ∧ sd = 1 ∧ sz = nI n ∧ (∀ k, k < n → stepR u (cd k) (s (84 + 125 * u + 1 + 2 * k)) (s (84 + 125 * u + 2 + 2 * k))) ∧ WF (fun k => s (84 + 125 * u + 1 + 2 * k)) n 1)
def ROL (M : Mem) (b : Nat) (s : Nat → Int32) : Prop := M.1 (b + 5) 1 = s 1 ∧ ∀ t, t < N s 1 → ∀ w, w < 4 → M.1 (b + 6) (4 * t + w) = s (28 + 4 * t + w)
def PIL (M : Mem) (b : Nat) (s : Nat → Int32) : Prop := M.1 (b + 7) 2 = s 2 ∧ ∀ p, p < N s 2 → M.1 (b + 8) p = s (68 + 2 * p + 0) ∧ M.1 (b + 9) p = s (68 + 2 * p + 1)
def SCA (M : Mem) (w b : Nat) (s : Nat → Int32) : Prop := M.1 w 9 = s 3 ∧ M.1 w 10 = s 8 ∧ ((s 4 = -1 ∧ M.1 w 12 = 0) ∨ (¬ s 4 = -1 ∧ M.1 w 11 = s 4 ∧ M.1 w 12 = s 5)) ∧ M.1 w 6 = s 6 ∧ (∀ k, k < N s 6 → M.1 (b + 20) k = s (334 + k)) ∧ M.1 w 8 = s 7 ∧ ∀ k, k < N s 7 → M.1 (b + 21) k = s (394 + k)
def LAWS (M : Mem) (b : Nat) (s : Nat → Int32) : Prop := LAW (M.1 (b + 14) 2) (M.1 (b + 14) 3) (M.1 (b + 15)) 0 s ∧ LAW (M.1 (b + 17) 2) (M.1 (b + 17) 3) (M.1 (b + 18)) 1 s
/-- a world of the class, and a row of the reference -/
def IW (M : Mem) (w b : Nat) (s : Nat → Int32) : Prop := (VS s ∧ SKY M b s) ∧ (VT s ∧ ROL M b s) ∧ (VP s ∧ PIL M b s) ∧ (VC s ∧ SCA M w b s) ∧ LAWS M b s
def ERR (M : Mem) : Prop := ∀ k, k < 7 → M.1 6 k = M.1 67 k
def TRC (M : Mem) : Prop := M.1 4 1 = M.1 64 18 ∧ vp_in (M.1 64 18) 31 ∧ ∀ k, k < N (M.1 64) 18 → M.1 63 k = M.1 77 k
def SHE (M : Mem) : Prop := ∀ q, q < 4 → M.1 (7 + q) 1 = M.1 78 q ∧ (M.1 78 q = 0 ∨ M.1 78 q = 8 ∨ M.1 78 q = 16 ∨ M.1 78 q = 32) ∧ M.1 (7 + q) 2 = M.1 79 q ∧ vp_in (M.1 79 q) 25 ∧ (M.1 78 q = 0 → M.1 79 q = 0) ∧ ∀ i, i < 24 → M.1 (11 + q) i = M.1 80 (24 * q + i)
def IMG (M : Mem) : Prop := M.1 0 6 = M.1 64 2 ∧ (M.1 64 2 = 0 ∨ IW M 2 38 (M.1 66))
def Inv (M : Mem) : Prop := IW M 1 15 (M.1 65) ∧ IMG M ∧ ERR M ∧ TRC M ∧ SHE M
/-! what each part looks at -/
theorem VT_congr {s s' : Nat → Int32} (h1 : s' 1 = s 1) (h : ∀ j, 28 ≤ j → j < 68 → s' j = s j) (hV : VT s) : VT s' := by
  have e : N s' 1 = N s 1 := by unfold N; rw [h1]
  refine ⟨by rw [e, h1]; exact hV.1, by rw [e]; exact hV.2.1, fun t ht => ?_⟩
  rw [e] at ht
  have h10 := hV.2.1
  have g : ∀ w, w < 4 → s' (28 + 4 * t + w) = s (28 + 4 * t + w) := fun w hw => h _ (by omega) (by omega)
  obtain ⟨a0, a⟩ := hV.2.2 t ht
  refine ⟨fun w hw => by rw [tx, N, g w hw]; exact a0 w hw, ?_⟩
  simp only [tx, N, g 0 (by omega), g 1 (by omega), g 2 (by omega), g 3 (by omega)] at a ⊢
  exact a
theorem VP_congr {s s' : Nat → Int32} (h1 : s' 2 = s 2) (h : ∀ j, 68 ≤ j → j < 84 → s' j = s j) (hV : VP s) : VP s' := by
  have e : N s' 2 = N s 2 := by unfold N; rw [h1]
  refine ⟨by rw [e, h1]; exact hV.1, by rw [e]; exact hV.2.1, fun t ht => ?_⟩
  rw [e] at ht
  have h10 := hV.2.1
  have g : ∀ w, w < 2 → s' (68 + 2 * t + w) = s (68 + 2 * t + w) := fun w hw => h _ (by omega) (by omega)
  obtain ⟨a0, a⟩ := hV.2.2 t ht
  refine ⟨fun w hw => by rw [px, N, g w hw]; exact a0 w hw, ?_⟩
  simp only [px, N, g 0 (by omega), g 1 (by omega)] at a ⊢
  exact a
theorem VC_congr {s s' : Nat → Int32} (h : ∀ j, 3 ≤ j → j < 8 → s' j = s j) (h2 : ∀ j, 334 ≤ j → j < 394 → s' j = s j) (hV : VC s) : VC s' := by
  obtain ⟨a1, a2, a3, a4, a5⟩ := hV
  have e6 := h 6 (by omega) (by omega)
  have hb := (vin_get a3 (by decide)).2
  refine ⟨by rw [h 3 (by omega) (by omega)]; exact a1, by rw [h 4 (by omega) (by omega), h 5 (by omega) (by omega)]; exact a2, by rw [e6]; exact a3, fun k hk => ?_, by rw [h 7 (by omega) (by omega)]; exact a5⟩
  have hk' : k < N s 6 := by unfold N at hk ⊢; rw [e6] at hk; exact hk
  rw [h2 _ (by omega) (by unfold N at hk'; omega)]
  exact a4 k hk'
theorem VS_congr {s s' : Nat → Int32} (h0 : s' 0 = s 0) (h : ∀ j, 10 ≤ j → j < 28 → s' j = s j) (hV : VS s) : VS s' := by
  have e : ns s' = ns s := by unfold ns; rw [h0]
  have h6 := hV.2.1
  have g : ∀ k w, k < ns s → w < 3 → s' (10 + 3 * k + w) = s (10 + 3 * k + w) := fun k w hk hw => h _ (by omega) (by omega)
  have gx : ∀ k w, k < ns s → w < 3 → sx s' w k = sx s w k := fun k w hk hw => by unfold sx; rw [g k w hk hw]
  refine ⟨by rw [e, h0]; exact hV.1, by rw [e]; exact h6, fun k hk => ?_, fun j k hjk hk => ?_⟩
  · rw [e] at hk
    obtain ⟨a0, a⟩ := hV.2.2.1 k hk
    refine ⟨fun w hw => by rw [g k w hk hw, gx k w hk hw]; exact a0 w hw, ?_⟩
    simp only [sa, sf, st, gx k 0 hk (by omega), gx k 1 hk (by omega), gx k 2 hk (by omega)] at a ⊢
    exact a
  · rw [e] at hk
    have hj : j < ns s := by omega
    simp only [sa, sf, st, gx k 0 hk (by omega), gx k 1 hk (by omega), gx k 2 hk (by omega), gx j 0 hj (by omega), gx j 1 hj (by omega), gx j 2 hj (by omega)]
    exact hV.2.2.2 j k hjk hk
theorem SKY_congr {M M1 : Mem} {b : Nat} {s s' : Nat → Int32} (hV : VS s) (h0 : s' 0 = s 0) (h : ∀ j, 10 ≤ j → j < 28 → s' j = s j) (c0 : M1.1 b 4 = M.1 b 4) (c1 : M1.1 (b + 1) = M.1 (b + 1)) (c2 : M1.1 (b + 2) = M.1 (b + 2)) (c3 : M1.1 (b + 3) = M.1 (b + 3)) (c4 : M1.1 (b + 4) = M.1 (b + 4)) (hS : SKY M b s) : SKY M1 b s' := by
  have e : ns s' = ns s := by unfold ns; rw [h0]
  have h6 := hV.2.1
  have g : ∀ k w, k < ns s → w < 3 → s' (10 + 3 * k + w) = s (10 + 3 * k + w) := fun k w hk hw => h _ (by omega) (by omega)
  have gx : ∀ k w, k < ns s → w < 3 → sx s' w k = sx s w k := fun k w hk hw => by unfold sx; rw [g k w hk hw]
  obtain ⟨a0, a1, p, p1, p2, p3⟩ := hS
  refine ⟨by rw [c0, h0]; exact a0, fun k hk => ?_, p, fun i hi => ?_, ⟨fun i hi => ?_, fun i j hi hj => ?_⟩, fun i j hij hj => ?_⟩
  · rw [e] at hk
    rw [c1, c2, c3, g k 0 hk (by omega), g k 1 hk (by omega), g k 2 hk (by omega)]
    exact a1 k hk
  · rw [e] at hi; rw [c4]; exact p1 i hi
  · rw [e] at hi ⊢; exact p2.1 i hi
  · rw [e] at hi hj; exact p2.2 i j hi hj
  · rw [e] at hj
    rw [sa, sa, gx _ 0 (p2.1 i (by omega)) (by omega), gx _ 0 (p2.1 j hj) (by omega)]
    exact p3 i j hij hj
theorem ROL_congr {M M1 : Mem} {b : Nat} {s s' : Nat → Int32} (hV : VT s) (h1 : s' 1 = s 1) (h : ∀ j, 28 ≤ j → j < 68 → s' j = s j) (c5 : M1.1 (b + 5) = M.1 (b + 5)) (c6 : M1.1 (b + 6) = M.1 (b + 6)) (hR : ROL M b s) : ROL M1 b s' := by
  have e : N s' 1 = N s 1 := by unfold N; rw [h1]
  have h10 := hV.2.1
  refine ⟨by rw [c5, h1]; exact hR.1, fun t ht w hw => ?_⟩
  rw [e] at ht
  rw [c6, h _ (by omega) (by omega)]
  exact hR.2 t ht w hw
theorem PIL_congr {M M1 : Mem} {b : Nat} {s s' : Nat → Int32} (hV : VP s) (h1 : s' 2 = s 2) (h : ∀ j, 68 ≤ j → j < 84 → s' j = s j) (c7 : M1.1 (b + 7) = M.1 (b + 7)) (c8 : M1.1 (b + 8) = M.1 (b + 8)) (c9 : M1.1 (b + 9) = M.1 (b + 9)) (hR : PIL M b s) : PIL M1 b s' := by
  have e : N s' 2 = N s 2 := by unfold N; rw [h1]
  have h10 := hV.2.1
  refine ⟨by rw [c7, h1]; exact hR.1, fun t ht => ?_⟩
  rw [e] at ht
  rw [c8, c9, h _ (by omega) (by omega), h _ (by omega) (by omega)]
  exact hR.2 t ht
theorem SCA_congr {M M1 : Mem} {w b : Nat} {s s' : Nat → Int32} (hV : VC s) (h : ∀ j, 3 ≤ j → j < 9 → s' j = s j) (h2 : ∀ j, 334 ≤ j → j < 418 → s' j = s j) (cw : M1.1 w = M.1 w) (c20 : M1.1 (b + 20) = M.1 (b + 20)) (c21 : M1.1 (b + 21) = M.1 (b + 21)) (hR : SCA M w b s) : SCA M1 w b s' := by
  obtain ⟨a1, a2, a3, a4, a5, a6, a7⟩ := hR
  obtain ⟨-, -, v6, -, v7⟩ := hV
  have b6 := (vin_get v6 (by decide)).2
  have b7 := (vin_get v7 (by decide)).2
  have e6 : N s' 6 = N s 6 := by unfold N; rw [h 6 (by omega) (by omega)]
  have e7 : N s' 7 = N s 7 := by unfold N; rw [h 7 (by omega) (by omega)]
  refine ⟨by rw [cw, h 3 (by omega) (by omega)]; exact a1, by rw [cw, h 8 (by omega) (by omega)]; exact a2, by rw [cw, h 4 (by omega) (by omega), h 5 (by omega) (by omega)]; exact a3, by rw [cw, h 6 (by omega) (by omega)]; exact a4, fun k hk => ?_, by rw [cw, h 7 (by omega) (by omega)]; exact a6, fun k hk => ?_⟩
  · rw [e6] at hk
    rw [c20, h2 _ (by omega) (by unfold N at hk; omega)]; exact a5 k hk
  · rw [e7] at hk
    rw [c21, h2 _ (by omega) (by unfold N at hk; omega)]; exact a7 k hk
theorem LAW_congr {sz sd : Int32} {cd : Nat → Int32} {u : Nat} {s s' : Nat → Int32} (h : ∀ j, 84 + 125 * u ≤ j → j < 84 + 125 * u + 125 → s' j = s j) (hL : LAW sz sd cd u s) : LAW sz sd cd u s' := by
  refine ⟨hL.1, ?_⟩
  rcases hL.2 with ⟨a1, a2⟩ | ⟨n, a1, a2, a3, a4, a5, a6, D, d1, d2, d3⟩
  · exact .inl ⟨by rw [h _ (by omega) (by omega)]; exact a1, a2⟩
  · refine .inr ⟨n, a1, a2, by rw [h _ (by omega) (by omega)]; exact a3, a4, a5, fun k hk => ?_, D, d1, d2, fun k hk => ?_⟩
    · rw [h _ (by omega) (by omega), h _ (by omega) (by omega)]; exact a6 k hk
    · have := d3 k hk
      show (s' _ = _ ∨ s' _ = _ → _) ∧ (s' _ = _ → _) ∧ (s' _ = _ → _)
      rw [h (84 + 125 * u + 1 + 2 * k) (by omega) (by omega)]
      exact this
theorem LAWS_congr {M M1 : Mem} {b : Nat} {s s' : Nat → Int32} (h : ∀ j, 84 ≤ j → j < 334 → s' j = s j) (c14 : M1.1 (b + 14) = M.1 (b + 14)) (c15 : M1.1 (b + 15) = M.1 (b + 15)) (c17 : M1.1 (b + 17) = M.1 (b + 17)) (c18 : M1.1 (b + 18) = M.1 (b + 18)) (hL : LAWS M b s) : LAWS M1 b s' := by
  unfold LAWS
  rw [c14, c15, c17, c18]
  exact ⟨LAW_congr (fun j h1 h2 => h j (by omega) (by omega)) hL.1, LAW_congr (fun j h1 h2 => h j (by omega) (by omega)) hL.2⟩
/-- the cells of a world -/
def wc (w b : Nat) : List Nat := [w, b, b + 1, b + 2, b + 3, b + 4, b + 5, b + 6, b + 7, b + 8, b + 9, b + 14, b + 15, b + 17, b + 18, b + 20, b + 21]
theorem IW_frame {M M1 : Mem} {w b : Nat} {s s' : Nat → Int32} (h : ∀ k, k ∈ wc w b → M1.1 k = M.1 k) (hs : ∀ j, j < 418 → s' j = s j) (hI : IW M w b s) : IW M1 w b s' := by
  obtain ⟨⟨v1, i1⟩, ⟨v2, i2⟩, ⟨v3, i3⟩, ⟨v4, i4⟩, i5⟩ := hI
  have c : ∀ k, k ∈ wc w b → M1.1 k = M.1 k := h
  refine ⟨⟨VS_congr (hs _ (by omega)) (fun j _ _ => hs j (by omega)) v1, SKY_congr v1 (hs _ (by omega)) (fun j _ _ => hs j (by omega)) (by rw [c b (by simp [wc])]) (c _ (by simp [wc])) (c _ (by simp [wc])) (c _ (by simp [wc])) (c _ (by simp [wc])) i1⟩,
    ⟨VT_congr (hs _ (by omega)) (fun j _ _ => hs j (by omega)) v2, ROL_congr v2 (hs _ (by omega)) (fun j _ _ => hs j (by omega)) (c _ (by simp [wc])) (c _ (by simp [wc])) i2⟩,
    ⟨VP_congr (hs _ (by omega)) (fun j _ _ => hs j (by omega)) v3, PIL_congr v3 (hs _ (by omega)) (fun j _ _ => hs j (by omega)) (c _ (by simp [wc])) (c _ (by simp [wc])) (c _ (by simp [wc])) i3⟩,
    ⟨VC_congr (fun j _ _ => hs j (by omega)) (fun j _ _ => hs j (by omega)) v4, SCA_congr v4 (fun j _ _ => hs j (by omega)) (fun j _ _ => hs j (by omega)) (c _ (by simp [wc])) (c _ (by simp [wc])) (c _ (by simp [wc])) i4⟩,
    LAWS_congr (fun j _ _ => hs j (by omega)) (c _ (by simp [wc])) (c _ (by simp [wc])) (c _ (by simp [wc])) (c _ (by simp [wc])) i5⟩
