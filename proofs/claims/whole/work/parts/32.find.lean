theorem has_ok {xs : gX} {d : Nat} {M : Mem} {Q : Int32 → Mem → Prop} {c k w : Nat} (hV : VS (M.1 65)) (hw : w = 1 ∨ w = 2) (hc : c < 1000) (hk : k < 1000) (hQ : Q (b2 (hN (M.1 65) w c k (ns (M.1 65)))) M) : MI xs (d + 1) mX9_has [.ref 64, .int (nI c), .int (nI k), .int (nI w)] M Q := by
  obtain ⟨hs0, hn6, hs, -⟩ := id hV
  have key : ∀ m j, j + m = ns (M.1 65) → GW xs (d + 1) mX9_has 6 [(0, .ref 64), (1, .int (nI c)), (2, .int (nI k)), (3, .int (nI w)), (4, .int (b2 (hN (M.1 65) w c k j))), (5, .int (nI j))] [] M (QI Q) := by
    intro m
    induction m with
    | zero =>
      intro j hj
      apply wp_X9_has_64_L6
      rw [hs0]
      refine ite_n (nI_nltI (by omega) (by omega) (by omega)) ⟨b2_01 _, ?_⟩
      rw [show j = ns (M.1 65) by omega]
      exact hQ
    | succ m ih =>
      intro j hj
      have ih := ih (j + 1) (by omega)
      apply wp_X9_has_64_L6
      rw [hs0]
      refine ite_p (nI_ltI' (by omega) (by omega) (by omega)) ?_
      have e1 : (10 + 3 * nI j) + 0 = nI (10 + 3 * j + 0) := by simp only [i_lit, nI_mul, nI_add]
      have e2 : (10 + 3 * nI j) + nI w = nI (10 + 3 * j + w) := by simp only [i_lit, nI_mul, nI_add]
      have hw3 : w < 3 := by omega
      have v1 := (hs j (by omega)).1 0 (by omega)
      have v2 := (hs j (by omega)).1 w hw3
      have l1 := sx_lt hV (k := j) (w := 0) (by omega) (by omega)
      have l2 := sx_lt hV (k := j) (w := w) (by omega) hw3
      rw [nI_1, e1, e2, nn_at (by omega), nn_at (by omega), v1, v2]
      cases hb : hN (M.1 65) w c k j
      · refine ite_p rfl ⟨vin_n (by omega) (by decide), ?_⟩
        by_cases q1 : sx (M.1 65) 0 j = k
        · refine ite_p (by rw [q1]) ⟨vin_n (by omega) (by decide), ?_⟩
          by_cases q2 : sx (M.1 65) w j = c
          · refine ite_p (by rw [q2]) ?_
            rw [show hN (M.1 65) w c k (j + 1) = true by simp [hN, q1, q2]] at ih
            exact ih
          · refine ite_n (nI_ne (by omega) (by omega) q2) ?_
            rw [show hN (M.1 65) w c k (j + 1) = false by simp [hN, hb, q2]] at ih
            exact ih
        · refine ite_n (nI_ne (by omega) (by omega) q1) ?_
          rw [show hN (M.1 65) w c k (j + 1) = false by simp [hN, hb, q1]] at ih
          exact ih
      · refine ite_n (by decide) ?_
        rw [show hN (M.1 65) w c k (j + 1) = true by simp [hN, hb]] at ih
        exact ih
  apply wp_X9_has_64
  exact key (ns (M.1 65)) 0 (by omega)
/-- the reference works the names of all years out -/
theorem findNames_ok {xs : gX} {d : Nat} {M : Mem} {Q : Mem → Prop} (hV : VS (M.1 65)) (hQ : ∀ f : Nat → Int32, (∀ c y, c < 4 → y < 200 → f (200 * c + y) = nI (nm (M.1 65) c y)) → Q (mwA M 68 f)) : MV xs (d + 2) mX9_findNames [.ref 64] M Q := by
  obtain ⟨s, hs⟩ : ∃ s, s = M.1 65 := ⟨_, rfl⟩
  rw [← hs] at hV hQ
  have h65 : ∀ f, (mwA M 68 f).1 65 = s := fun f => by rw [mwA_ne M f (by decide), hs]
  -- the rows of the counties below c stand
  have outer : ∀ m c f, c + m = 4 → (∀ c' y, c' < c → y < 200 → f (200 * c' + y) = nI (nm s c' y)) → GW xs (d + 2) mX9_findNames 2 [(0, .ref 64), (1, .int (nI c))] [] (mwA M 68 f) (QV Q) := by
    intro m
    induction m with
    | zero =>
      intro c f hc hf
      apply wp_X9_findNames_64_L2
      refine ite_n (nI_nltI (b := 4) (by omega) (by decide) (by omega)) (hQ f (fun c' y h1 h2 => hf c' y (by omega) h2))
    | succ m ihm =>
      intro c f hc hf
      have inner : ∀ n name f year, 206 ≤ name + n → name ≤ 206 → year = min 200 (cum (so s c) (bo s c) name) → (∀ c' y, c' < c → y < 200 → f (200 * c' + y) = nI (nm s c' y)) → (∀ y, y < year → f (200 * c + y) = nI (nm s c y)) → GW xs (d + 2) mX9_findNames 11 [(0, .ref 64), (1, .int (nI c)), (2, .int (nI name)), (3, .int (nI year))] [] (mwA M 68 f) (QV Q) := by
        intro n
        induction n with
        | zero =>
          intro name f year h1 h2 hy hf1 hf2
          have h3 := (cum_s hV c name).1
          have hy2 : year = 200 := by omega
          apply wp_X9_findNames_64_L11
          refine ite_n (nI_nltI (b := 200) (by omega) (by decide) (by omega)) ?_
          simp only [nI_1]
          refine ihm (c + 1) f (by omega) (fun c' y g1 g2 => ?_)
          by_cases e : c' = c
          · subst e; exact hf2 y (by omega)
          · exact hf1 c' y (by omega) g2
        | succ n ihn =>
          intro name f year h1 h2 hy hf1 hf2
          apply wp_X9_findNames_64_L11
          by_cases hlt : year < 200
          · refine ite_p (nI_ltI' (b := 200) (by omega) (by decide) hlt) ?_
            have h3 := (cum_s hV c name).1
            have hyc : year = cum (so s c) (bo s c) name := by omega
            have hcs : cum (so s c) (bo s c) (name + 1) = cum (so s c) (bo s c) name + (if so s c name then 0 else if bo s c name then 2 else 1) := rfl
            refine has_ok (by rw [h65]; exact hV) (.inl rfl) (by omega) (by omega) ?_
            rw [h65]
            simp only [nI_1]
            cases hso : so s c name
            · refine ite_p (b2_0.mpr hso) ?_
              have e1 : (200 * nI c) + nI year = nI (200 * c + year) := by simp only [i_lit, nI_mul, nI_add]
              have e2 : (200 * nI c) + nI (year + 1) = nI (200 * c + (year + 1)) := by simp only [i_lit, nI_mul, nI_add]
              rw [e1, e2, nn_at (by omega), nn_at (by omega), mw_mwA]
              refine ⟨vin_n (by omega) (by decide), ?_⟩
              refine has_ok (by rw [h65]; exact hV) (.inr rfl) (by omega) (by omega) ?_
              rw [h65]
              rw [hso] at hcs
              -- the place written is the year's own name
              have put : ∀ (g : Nat → Int32) (y0 : Nat), cum (so s c) (bo s c) name ≤ y0 → y0 < cum (so s c) (bo s c) (name + 1) → y0 < 200 → (∀ c' y, c' < c → y < 200 → g (200 * c' + y) = nI (nm s c' y)) → (∀ y, y < y0 → g (200 * c + y) = nI (nm s c y)) → (∀ c' y, c' < c → y < 200 → upd g (200 * c + y0) (nI name) (200 * c' + y) = nI (nm s c' y)) ∧ (∀ y, y < y0 + 1 → upd g (200 * c + y0) (nI name) (200 * c + y) = nI (nm s c y)) := by
                intro g y0 a1 a2 a3 b1 b2'
                refine ⟨fun c' y g1 g2 => ?_, fun y g1 => ?_⟩
                · rw [upd_ne g _ (by omega)]; exact b1 c' y g1 g2
                · by_cases e : y = y0
                  · subst e
                    rw [upd_at, nm_of (m := name) ⟨a1, a2⟩ (by omega)]
                  · rw [upd_ne g _ (by omega)]; exact b2' y (by omega)
              cases hbo : bo s c name
              · refine ite_p (b2_0.mpr hbo) ?_
                rw [hbo] at hcs
                simp only [Bool.false_eq_true, if_false] at hcs
                obtain ⟨p1, p2⟩ := put f year (by omega) (by omega) hlt hf1 hf2
                exact ihn (name + 1) _ (year + 1) (by omega) (by omega) (by omega) p1 p2
              · rw [hbo] at hcs
                simp only [Bool.false_eq_true, if_false, if_true] at hcs
                refine ite_n (by rw [show hN s 2 c name (ns s) = true from hbo]; decide) ?_
                obtain ⟨p1, p2⟩ := put f year (by omega) (by omega) hlt hf1 hf2
                by_cases hlt2 : year + 1 < 200
                · refine ite_p (nI_ltI' (b := 200) (by omega) (by decide) hlt2) ⟨vin_n (by omega) (by decide), ?_⟩
                  rw [mw_mwA]
                  obtain ⟨p3, p4⟩ := put _ (year + 1) (by omega) (by omega) hlt2 p1 p2
                  exact ihn (name + 1) _ (year + 1 + 1) (by omega) (by omega) (by omega) p3 p4
                · refine ite_n (nI_nltI (b := 200) (by omega) (by decide) (by omega)) ?_
                  exact ihn (name + 1) _ (year + 1) (by omega) (by omega) (by omega) p1 p2
            · refine ite_n (by rw [show hN s 1 c name (ns s) = true from hso]; decide) ?_
              rw [hso] at hcs
              simp only [if_true] at hcs
              exact ihn (name + 1) f year (by omega) (by omega) (by omega) hf1 hf2
          · refine ite_n (nI_nltI (b := 200) (by omega) (by decide) (by omega)) ?_
            simp only [nI_1]
            refine ihm (c + 1) f (by omega) (fun c' y g1 g2 => ?_)
            by_cases e : c' = c
            · subst e; exact hf2 y (by omega)
            · exact hf1 c' y (by omega) g2
      apply wp_X9_findNames_64_L2
      refine ite_p (nI_ltI' (b := 4) (by omega) (by decide) (by omega)) ?_
      exact inner 206 0 f 0 (by omega) (by omega) (by simp [cum]) hf (fun y hy => by omega)
  apply wp_X9_findNames_64
  have h := outer 4 0 (M.1 68) (by omega) (fun c' y h => by omega)
  rw [mwA_self] at h
  exact h
