/-! one part of a world changes, the others stay -/
theorem IW_sales {M M1 : Mem} {w b : Nat} {s s' : Nat → Int32} (hI : IW M w b s) (hs : ∀ j, j < 418 → j ≠ 0 → (j < 10 ∨ 28 ≤ j) → s' j = s j) (hc : ∀ k, k ∈ [w, b + 5, b + 6, b + 7, b + 8, b + 9, b + 14, b + 15, b + 17, b + 18, b + 20, b + 21] → M1.1 k = M.1 k) (h1 : VS s') (h2 : SKY M1 b s') : IW M1 w b s' := by
  obtain ⟨⟨v1, i1⟩, ⟨v2, i2⟩, ⟨v3, i3⟩, ⟨v4, i4⟩, i5⟩ := hI
  exact ⟨⟨h1, h2⟩,
    ⟨VT_congr (hs _ (by omega) (by omega) (by omega)) (fun j _ _ => hs j (by omega) (by omega) (by omega)) v2, ROL_congr v2 (hs _ (by omega) (by omega) (by omega)) (fun j _ _ => hs j (by omega) (by omega) (by omega)) (hc _ (by simp)) (hc _ (by simp)) i2⟩,
    ⟨VP_congr (hs _ (by omega) (by omega) (by omega)) (fun j _ _ => hs j (by omega) (by omega) (by omega)) v3, PIL_congr v3 (hs _ (by omega) (by omega) (by omega)) (fun j _ _ => hs j (by omega) (by omega) (by omega)) (hc _ (by simp)) (hc _ (by simp)) (hc _ (by simp)) i3⟩,
    ⟨VC_congr (fun j _ _ => hs j (by omega) (by omega) (by omega)) (fun j _ _ => hs j (by omega) (by omega) (by omega)) v4, SCA_congr v4 (fun j _ _ => hs j (by omega) (by omega) (by omega)) (fun j _ _ => hs j (by omega) (by omega) (by omega)) (hc _ (by simp)) (hc _ (by simp)) (hc _ (by simp)) i4⟩,
    LAWS_congr (fun j _ _ => hs j (by omega) (by omega) (by omega)) (hc _ (by simp)) (hc _ (by simp)) (hc _ (by simp)) (hc _ (by simp)) i5⟩
theorem IW_things {M M1 : Mem} {w b : Nat} {s s' : Nat → Int32} (hI : IW M w b s) (hs : ∀ j, j < 418 → j ≠ 1 → (j < 28 ∨ 68 ≤ j) → s' j = s j) (hc : ∀ k, k ∈ [w, b, b + 1, b + 2, b + 3, b + 4, b + 7, b + 8, b + 9, b + 14, b + 15, b + 17, b + 18, b + 20, b + 21] → M1.1 k = M.1 k) (h1 : VT s') (h2 : ROL M1 b s') : IW M1 w b s' := by
  obtain ⟨⟨v1, i1⟩, ⟨v2, i2⟩, ⟨v3, i3⟩, ⟨v4, i4⟩, i5⟩ := hI
  exact ⟨⟨VS_congr (hs _ (by omega) (by omega) (by omega)) (fun j _ _ => hs j (by omega) (by omega) (by omega)) v1, SKY_congr v1 (hs _ (by omega) (by omega) (by omega)) (fun j _ _ => hs j (by omega) (by omega) (by omega)) (by rw [hc b (by simp)]) (hc _ (by simp)) (hc _ (by simp)) (hc _ (by simp)) (hc _ (by simp)) i1⟩,
    ⟨h1, h2⟩,
    ⟨VP_congr (hs _ (by omega) (by omega) (by omega)) (fun j _ _ => hs j (by omega) (by omega) (by omega)) v3, PIL_congr v3 (hs _ (by omega) (by omega) (by omega)) (fun j _ _ => hs j (by omega) (by omega) (by omega)) (hc _ (by simp)) (hc _ (by simp)) (hc _ (by simp)) i3⟩,
    ⟨VC_congr (fun j _ _ => hs j (by omega) (by omega) (by omega)) (fun j _ _ => hs j (by omega) (by omega) (by omega)) v4, SCA_congr v4 (fun j _ _ => hs j (by omega) (by omega) (by omega)) (fun j _ _ => hs j (by omega) (by omega) (by omega)) (hc _ (by simp)) (hc _ (by simp)) (hc _ (by simp)) i4⟩,
    LAWS_congr (fun j _ _ => hs j (by omega) (by omega) (by omega)) (hc _ (by simp)) (hc _ (by simp)) (hc _ (by simp)) (hc _ (by simp)) i5⟩
theorem IW_papers {M M1 : Mem} {w b : Nat} {s s' : Nat → Int32} (hI : IW M w b s) (hs : ∀ j, j < 418 → j ≠ 2 → (j < 68 ∨ 84 ≤ j) → s' j = s j) (hc : ∀ k, k ∈ [w, b, b + 1, b + 2, b + 3, b + 4, b + 5, b + 6, b + 14, b + 15, b + 17, b + 18, b + 20, b + 21] → M1.1 k = M.1 k) (h1 : VP s') (h2 : PIL M1 b s') : IW M1 w b s' := by
  obtain ⟨⟨v1, i1⟩, ⟨v2, i2⟩, ⟨v3, i3⟩, ⟨v4, i4⟩, i5⟩ := hI
  exact ⟨⟨VS_congr (hs _ (by omega) (by omega) (by omega)) (fun j _ _ => hs j (by omega) (by omega) (by omega)) v1, SKY_congr v1 (hs _ (by omega) (by omega) (by omega)) (fun j _ _ => hs j (by omega) (by omega) (by omega)) (by rw [hc b (by simp)]) (hc _ (by simp)) (hc _ (by simp)) (hc _ (by simp)) (hc _ (by simp)) i1⟩,
    ⟨VT_congr (hs _ (by omega) (by omega) (by omega)) (fun j _ _ => hs j (by omega) (by omega) (by omega)) v2, ROL_congr v2 (hs _ (by omega) (by omega) (by omega)) (fun j _ _ => hs j (by omega) (by omega) (by omega)) (hc _ (by simp)) (hc _ (by simp)) i2⟩,
    ⟨h1, h2⟩,
    ⟨VC_congr (fun j _ _ => hs j (by omega) (by omega) (by omega)) (fun j _ _ => hs j (by omega) (by omega) (by omega)) v4, SCA_congr v4 (fun j _ _ => hs j (by omega) (by omega) (by omega)) (fun j _ _ => hs j (by omega) (by omega) (by omega)) (hc _ (by simp)) (hc _ (by simp)) (hc _ (by simp)) i4⟩,
    LAWS_congr (fun j _ _ => hs j (by omega) (by omega) (by omega)) (hc _ (by simp)) (hc _ (by simp)) (hc _ (by simp)) (hc _ (by simp)) i5⟩
theorem IW_sca {M M1 : Mem} {w b : Nat} {s s' : Nat → Int32} (hI : IW M w b s) (hs : ∀ j, j < 334 → (j < 3 ∨ 9 ≤ j) → s' j = s j) (hc : ∀ k, k ∈ [b, b + 1, b + 2, b + 3, b + 4, b + 5, b + 6, b + 7, b + 8, b + 9, b + 14, b + 15, b + 17, b + 18] → M1.1 k = M.1 k) (h1 : VC s') (h2 : SCA M1 w b s') : IW M1 w b s' := by
  obtain ⟨⟨v1, i1⟩, ⟨v2, i2⟩, ⟨v3, i3⟩, ⟨v4, i4⟩, i5⟩ := hI
  exact ⟨⟨VS_congr (hs _ (by omega) (by omega)) (fun j _ _ => hs j (by omega) (by omega)) v1, SKY_congr v1 (hs _ (by omega) (by omega)) (fun j _ _ => hs j (by omega) (by omega)) (by rw [hc b (by simp)]) (hc _ (by simp)) (hc _ (by simp)) (hc _ (by simp)) (hc _ (by simp)) i1⟩,
    ⟨VT_congr (hs _ (by omega) (by omega)) (fun j _ _ => hs j (by omega) (by omega)) v2, ROL_congr v2 (hs _ (by omega) (by omega)) (fun j _ _ => hs j (by omega) (by omega)) (hc _ (by simp)) (hc _ (by simp)) i2⟩,
    ⟨VP_congr (hs _ (by omega) (by omega)) (fun j _ _ => hs j (by omega) (by omega)) v3, PIL_congr v3 (hs _ (by omega) (by omega)) (fun j _ _ => hs j (by omega) (by omega)) (hc _ (by simp)) (hc _ (by simp)) (hc _ (by simp)) i3⟩,
    ⟨h1, h2⟩,
    LAWS_congr (fun j _ _ => hs j (by omega) (by omega)) (hc _ (by simp)) (hc _ (by simp)) (hc _ (by simp)) (hc _ (by simp)) i5⟩
theorem IW_laws {M M1 : Mem} {w b : Nat} {s s' : Nat → Int32} (hI : IW M w b s) (hs : ∀ j, j < 418 → (j < 84 ∨ 334 ≤ j) → s' j = s j) (hc : ∀ k, k ∈ [w, b, b + 1, b + 2, b + 3, b + 4, b + 5, b + 6, b + 7, b + 8, b + 9, b + 20, b + 21] → M1.1 k = M.1 k) (h2 : LAWS M1 b s') : IW M1 w b s' := by
  obtain ⟨⟨v1, i1⟩, ⟨v2, i2⟩, ⟨v3, i3⟩, ⟨v4, i4⟩, i5⟩ := hI
  exact ⟨⟨VS_congr (hs _ (by omega) (by omega)) (fun j _ _ => hs j (by omega) (by omega)) v1, SKY_congr v1 (hs _ (by omega) (by omega)) (fun j _ _ => hs j (by omega) (by omega)) (by rw [hc b (by simp)]) (hc _ (by simp)) (hc _ (by simp)) (hc _ (by simp)) (hc _ (by simp)) i1⟩,
    ⟨VT_congr (hs _ (by omega) (by omega)) (fun j _ _ => hs j (by omega) (by omega)) v2, ROL_congr v2 (hs _ (by omega) (by omega)) (fun j _ _ => hs j (by omega) (by omega)) (hc _ (by simp)) (hc _ (by simp)) i2⟩,
    ⟨VP_congr (hs _ (by omega) (by omega)) (fun j _ _ => hs j (by omega) (by omega)) v3, PIL_congr v3 (hs _ (by omega) (by omega)) (fun j _ _ => hs j (by omega) (by omega)) (hc _ (by simp)) (hc _ (by simp)) (hc _ (by simp)) i3⟩,
    ⟨VC_congr (fun j _ _ => hs j (by omega) (by omega)) (fun j _ _ => hs j (by omega) (by omega)) v4, SCA_congr v4 (fun j _ _ => hs j (by omega) (by omega)) (fun j _ _ => hs j (by omega) (by omega)) (hc _ (by simp)) (hc _ (by simp)) (hc _ (by simp)) i4⟩,
    h2⟩
/-- the cells on which all but the world rests -/
def oc : List Nat := [0, 4, 6, 7, 8, 9, 10, 11, 12, 13, 14, 63, 64, 66, 67, 77, 78, 79, 80] ++ wc 2 38
theorem IMG_frame {M M1 : Mem} (h : ∀ k, k ∈ wc 2 38 → M1.1 k = M.1 k) (h0 : M1.1 0 6 = M.1 0 6) (h64 : M1.1 64 2 = M.1 64 2) (h66 : M1.1 66 = M.1 66) (hI : IMG M) : IMG M1 := by
  refine ⟨by rw [h0, h64]; exact hI.1, ?_⟩
  rcases hI.2 with e | e
  · exact .inl (by rw [h64]; exact e)
  · exact .inr (IW_frame h (fun j _ => by rw [h66]) e)
theorem q4 {q : Nat} (h : q < 4) : q = 0 ∨ q = 1 ∨ q = 2 ∨ q = 3 := by omega
theorem SHE_frame {M M1 : Mem} (h : ∀ k, k ∈ [7, 8, 9, 10, 11, 12, 13, 14, 78, 79, 80] → M1.1 k = M.1 k) (hI : SHE M) : SHE M1 := by
  intro q hq
  have a := hI q hq
  have e1 : M1.1 (7 + q) = M.1 (7 + q) := h _ (by rcases q4 hq with rfl | rfl | rfl | rfl <;> simp)
  have e2 : M1.1 (11 + q) = M.1 (11 + q) := h _ (by rcases q4 hq with rfl | rfl | rfl | rfl <;> simp)
  rw [h 78 (by simp), h 79 (by simp), h 80 (by simp), e1, e2]
  exact a
theorem TRC_frame {M M1 : Mem} (h4 : M1.1 4 1 = M.1 4 1) (h64 : M1.1 64 18 = M.1 64 18) (h63 : M1.1 63 = M.1 63) (h77 : M1.1 77 = M.1 77) (hI : TRC M) : TRC M1 := by
  unfold TRC N
  rw [h4, h64, h63, h77]
  exact hI
/-- only the world changes (and what nobody asks for) -/
theorem Inv_of {M M1 : Mem} (hI : Inv M) (h : ∀ k, k ∈ oc → M1.1 k = M.1 k) (hW : IW M1 1 15 (M1.1 65)) : Inv M1 := by
  obtain ⟨-, i2, i3, i4, i5⟩ := hI
  refine ⟨hW, IMG_frame (fun k hk => h k (List.mem_append_right _ hk)) (by rw [h 0 (by simp [oc])]) (by rw [h 64 (by simp [oc])]) (h 66 (by simp [oc])) i2, fun k hk => ?_, TRC_frame (by rw [h 4 (by simp [oc])]) (by rw [h 64 (by simp [oc])]) (h 63 (by simp [oc])) (h 77 (by simp [oc])) i4, SHE_frame (fun k hk => h k ?_) i5⟩
  · rw [h 6 (by simp [oc]), h 67 (by simp [oc])]; exact i3 k hk
  · simp only [List.mem_cons, List.not_mem_nil, or_false] at hk
    rcases hk with rfl | rfl | rfl | rfl | rfl | rfl | rfl | rfl | rfl | rfl | rfl <;> simp [oc]
/-- an error, told by both -/
theorem Inv_err {M : Mem} (hI : Inv M) (k : Nat) : Inv (mw (mw M 6 k (M.1 6 k + 1)) 67 k ((mw M 6 k (M.1 6 k + 1)).1 67 k + 1)) := by
  obtain ⟨i1, i2, i3, i4, i5⟩ := hI
  have h : ∀ c, c ≠ 6 → c ≠ 67 → (mw (mw M 6 k (M.1 6 k + 1)) 67 k ((mw M 6 k (M.1 6 k + 1)).1 67 k + 1)).1 c = M.1 c := fun c h1 h2 => by rw [mw_ne _ _ _ h2, mw_ne _ _ _ h1]
  refine ⟨?_, IMG_frame (fun c hc => h c ?_ ?_) (by rw [h 0 (by decide) (by decide)]) (by rw [h 64 (by decide) (by decide)]) (h 66 (by decide) (by decide)) i2, fun j hj => ?_, TRC_frame (by rw [h 4 (by decide) (by decide)]) (by rw [h 64 (by decide) (by decide)]) (h 63 (by decide) (by decide)) (h 77 (by decide) (by decide)) i4, SHE_frame (fun c hc => h c ?_ ?_) i5⟩
  · rw [h 65 (by decide) (by decide)]
    exact IW_frame (fun c hc => h c (by intro e; subst e; revert hc; decide) (by intro e; subst e; revert hc; decide)) (fun _ _ => rfl) i1
  · intro e; subst e; revert hc; decide
  · intro e; subst e; revert hc; decide
  · rw [mw_at, mw_ne _ _ _ (by decide), mw_at, mw_ne _ _ _ (by decide)]
    by_cases e : j = k
    · subst e; rw [upd_at, upd_at, i3 j hj]
    · rw [upd_ne _ _ e, upd_ne _ _ e]; exact i3 j hj
  · intro e; subst e; revert hc; decide
  · intro e; subst e; revert hc; decide
theorem Inv_err' {M : Mem} (hI : Inv M) (k : Nat) {x : Int32} (hx : x = M.1 67 k + 1) : Inv (mw (mw M 6 k (M.1 6 k + 1)) 67 k x) := by
  subst hx
  have h := Inv_err hI k
  rw [mw_ne _ _ _ (by decide : (67 : Nat) ≠ 6)] at h
  exact h
