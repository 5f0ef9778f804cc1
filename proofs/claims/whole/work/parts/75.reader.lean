/-! ===== the reference reads a text ===== -/
def rv (u : Nat) (s : Nat × Nat) : Int32 := if s.1 = 1 then nI (nmC u s.2) else nI s.2
def RX (M0 : Mem) (a : Nat) (M1 : Mem) : Prop := M1.1 64 5 = nI a ∧ M1.1 64 2 = M0.1 64 2 ∧ M1.1 64 18 = M0.1 64 18 ∧ ∀ k, k ≠ 64 → k ≠ 69 → M1.1 k = M0.1 k
def RT (M0 : Mem) (u a o : Nat) (C : List (Nat × Nat)) (M1 : Mem) : Prop := RX M0 a M1 ∧ M1.1 64 6 = nI o ∧ M1.1 64 7 = nI C.length ∧ M1.1 64 8 = nI u ∧ ∀ i, i < C.length → M1.1 69 (2 * i) = nI (C.getD i (0, 0)).1 ∧ M1.1 69 (2 * i + 1) = rv u (C.getD i (0, 0))
def RR (M0 : Mem) (u o : Nat) (C : List (Nat × Nat)) (r : PR) (M1 : Mem) : Prop := (r.1 = true → RT M0 u r.2.1 o (C ++ r.2.2) M1) ∧ (r.1 = false → RX M0 r.2.1 M1)
theorem RT_at {M0 M1 : Mem} {u a o : Nat} {C : List (Nat × Nat)} (a' : Nat) (h : RT M0 u a o C M1) : RT M0 u a' o C (mw M1 64 5 (nI a')) := by
  obtain ⟨⟨h1, h2, h3, h4⟩, h5, h6, h7, h8⟩ := h
  unfold RT RX
  rw [mw_at, upd_at, upd_ne _ _ (by decide), upd_ne _ _ (by decide), upd_ne _ _ (by decide), upd_ne _ _ (by decide), upd_ne _ _ (by decide), mw_ne _ _ _ (by decide : (69 : Nat) ≠ 64)]
  exact ⟨⟨rfl, h2, h3, fun k g1 g2 => by rw [mw_ne _ _ _ g1]; exact h4 k g1 g2⟩, h5, h6, h7, h8⟩
theorem RT_op {M0 M1 : Mem} {u a o : Nat} {C : List (Nat × Nat)} (o' : Nat) (h : RT M0 u a o C M1) : RT M0 u a o' C (mw M1 64 6 (nI o')) := by
  obtain ⟨⟨h1, h2, h3, h4⟩, h5, h6, h7, h8⟩ := h
  unfold RT RX
  rw [mw_at, upd_ne _ _ (by decide), upd_ne _ _ (by decide), upd_ne _ _ (by decide), upd_at, upd_ne _ _ (by decide), upd_ne _ _ (by decide), mw_ne _ _ _ (by decide : (69 : Nat) ≠ 64)]
  exact ⟨⟨h1, h2, h3, fun k g1 g2 => by rw [mw_ne _ _ _ g1]; exact h4 k g1 g2⟩, rfl, h6, h7, h8⟩
theorem RT_lay {M0 M1 : Mem} {u a o : Nat} {C : List (Nat × Nat)} (s : Nat × Nat) (h : RT M0 u a o C M1) : RT M0 u a o (C ++ [s]) (mw (mw (mw M1 69 (2 * C.length) (nI s.1)) 69 (2 * C.length + 1) (rv u s)) 64 7 (nI (C.length + 1))) := by
  obtain ⟨⟨h1, h2, h3, h4⟩, h5, h6, h7, h8⟩ := h
  unfold RT RX
  rw [mw_at, mw_ne _ _ _ (by decide : (64 : Nat) ≠ 69), mw_ne _ _ _ (by decide : (64 : Nat) ≠ 69), upd_ne _ _ (by decide), upd_ne _ _ (by decide), upd_ne _ _ (by decide), upd_ne _ _ (by decide), upd_at, upd_ne _ _ (by decide), gL2]
  refine ⟨⟨h1, h2, h3, fun k g1 g2 => by rw [mw_ne _ _ _ g1, mw_ne _ _ _ g2, mw_ne _ _ _ g2]; exact h4 k g1 g2⟩, h5, rfl, h7, fun i hi => ?_⟩
  rw [mw_ne _ _ _ (by decide : (69 : Nat) ≠ 64), mw_at, mw_at]
  by_cases e : i = C.length
  · subst e
    rw [upd_ne _ _ (by omega), upd_at, upd_at, gB2]
    exact ⟨rfl, rfl⟩
  · rw [upd_ne _ _ (by omega), upd_ne _ _ (by omega), upd_ne _ _ (by omega), upd_ne _ _ (by omega), gA2 C s i (by omega)]
    exact h8 i (by omega)
theorem RR_t {M0 M1 : Mem} {u a o : Nat} {C L : List (Nat × Nat)} (h : RT M0 u a o (C ++ L) M1) : RR M0 u o C (true, a, L) M1 := ⟨fun _ => h, fun h => by cases h⟩
theorem RR_f {M0 M1 : Mem} {u a o : Nat} {C L : List (Nat × Nat)} (h : RX M0 a M1) : RR M0 u o C (false, a, L) M1 := ⟨fun h => (by cases h), fun _ => h⟩
theorem RR_app {M0 M1 : Mem} {u o : Nat} {C K : List (Nat × Nat)} {q : PR} (h : RR M0 u o (C ++ K) q M1) : RR M0 u o C (q.1, q.2.1, K ++ q.2.2) M1 := by
  refine ⟨fun hb => ?_, fun hb => h.2 hb⟩
  have g := h.1 hb
  rw [List.append_assoc] at g
  exact g
def lk (t : Nat → Nat) (n a : Nat) : Int32 := if a < n then nI (t a) else -1
theorem lk_eq {t : Nat → Nat} {n a c : Nat} (ht : ∀ i, i < n → t i < 256) (hc : c < 256) : lk t n a = nI c ↔ a < n ∧ t a = c := by
  unfold lk
  by_cases q : a < n
  · have := ht a q
    rw [if_pos q]
    exact ⟨fun h => ⟨q, nI_inj (by omega) (by omega) h⟩, fun h => by rw [h.2]⟩
  · rw [if_neg q]
    refine ⟨fun h => ?_, fun h => absurd h.1 q⟩
    exact absurd h.symm (nI_neg_ne (by omega) (by decide))
/-- the tape that is read -/
def TP (M0 : Mem) (t : Nat → Nat) (n : Nat) : Prop := M0.1 65 6 = nI n ∧ ∀ i, i < n → M0.1 65 (334 + i) = nI (t i)
theorem look_ok {xs : gX} {D : Nat} {M0 M1 : Mem} {Q : Int32 → Mem → Prop} {t : Nat → Nat} {n a : Nat} (hT : TP M0 t n) (hn : n ≤ 60) (ha : a ≤ n) (h : RX M0 a M1) (hQ : Q (lk t n a) M1) : MI xs D mX9_look [.ref 64] M1 Q := by
  apply wp_X9_look_64
  rw [h.1, h.2.2.2 65 (by decide) (by decide), hT.1, show 334 + nI a = nI (334 + a) from nI_add 334 a, nn_at (n := 334 + a) (by omega)]
  unfold lk at hQ
  by_cases q : a < n
  · rw [if_pos q] at hQ
    rw [hT.2 a q]
    exact ite_p (nI_ltI' (by omega) (by omega) q) ⟨vin_n (by omega) (by decide), hQ⟩
  · rw [if_neg q] at hQ
    exact ite_n (nI_nltI (by omega) (by omega) (by omega)) hQ
theorem lays_ok {xs : gX} {D : Nat} {M0 M1 : Mem} {Q : Mem → Prop} {u a o : Nat} {C : List (Nat × Nat)} {w v : Int32} (s : Nat × Nat) (hw : w = nI s.1) (hv : v = rv u s) (hC : C.length < 62) (h : RT M0 u a o C M1) (hQ : ∀ M2, RT M0 u a o (C ++ [s]) M2 → Q M2) : MV xs D mX9_lays [.ref 64, .int w, .int v] M1 Q := by
  subst hw hv
  have k := hQ _ (RT_lay s h)
  apply wp_X9_lays_64
  rw [h.2.2.1, show 2 * nI C.length = nI (2 * C.length) from nI_mul 2 _, show nI (2 * C.length) + 1 = nI (2 * C.length + 1) from nI_1 _, show nI C.length + 1 = nI (C.length + 1) from nI_1 _, nn_at (n := 2 * C.length) (by omega), nn_at (n := 2 * C.length + 1) (by omega)]
  exact ⟨vin_n (by omega) (by decide), vin_n (by omega) (by decide), k⟩
theorem isName_c {xs : gX} {D : Nat} {M0 M1 : Mem} {Q : Int32 → Mem → Prop} {u a o c : Nat} {C : List (Nat × Nat)} (hu : u < 2) (hc : c < 256) (h : RT M0 u a o C M1) (hQ : Q (if nix u c = none then 0 else 1) M1) : MI xs D mX9_isName [.ref 64, .int (nI c)] M1 Q := by
  apply wp_X9_isName_64
  rw [h.2.2.2.1]
  have ne : ∀ x : Nat, x < 256 → c ≠ x → ¬ nI c = nI x := fun x h1 h2 => nI_ne (by omega) (by omega) h2
  unfold nix at hQ
  rcases (show u = 0 ∨ u = 1 by omega) with rfl | rfl
  · rw [show nmC 0 0 = 98 from rfl, show nmC 0 1 = 116 from rfl, show nmC 0 2 = 109 from rfl] at hQ
    by_cases q0 : c = 109
    · subst q0; exact ite_p rfl hQ
    · refine ite_n (ne 109 (by decide) q0) (ite_p rfl ?_)
      by_cases q1 : c = 98
      · subst q1; exact ite_p rfl hQ
      · refine ite_n (ne 98 (by decide) q1) ?_
        by_cases q2 : c = 116
        · subst q2; exact ite_p rfl hQ
        · rw [if_neg q1, if_neg q2, if_neg q0, if_pos rfl] at hQ
          exact ite_n (ne 116 (by decide) q2) hQ
  · rw [show nmC 1 0 = 97 from rfl, show nmC 1 1 = 107 from rfl, show nmC 1 2 = 109 from rfl] at hQ
    by_cases q0 : c = 109
    · subst q0; exact ite_p rfl hQ
    · refine ite_n (ne 109 (by decide) q0) (ite_n (by decide) ?_)
      by_cases q1 : c = 97
      · subst q1; exact ite_p rfl hQ
      · refine ite_n (ne 97 (by decide) q1) ?_
        by_cases q2 : c = 107
        · subst q2; exact ite_p rfl hQ
        · rw [if_neg q1, if_neg q2, if_neg q0, if_pos rfl] at hQ
          exact ite_n (ne 107 (by decide) q2) hQ
theorem isName_m {xs : gX} {D : Nat} {M1 : Mem} {Q : Int32 → Mem → Prop} (hQ : Q 0 M1) : MI xs D mX9_isName [.ref 64, .int (-1)] M1 Q := by
  apply wp_X9_isName_64
  refine ite_n (by decide) ?_
  by_cases q : M1.1 64 8 = 0
  · exact ite_p q (ite_n (by decide) (ite_n (by decide) hQ))
  · exact ite_n q (ite_n (by decide) (ite_n (by decide) hQ))
theorem nix_D {u c : Nat} (hu : u < 2) (h : isD c) : nix u c = none := by
  have h1 := h.1
  have h2 := h.2
  unfold nix
  rcases (show u = 0 ∨ u = 1 by omega) with rfl | rfl
  · rw [show nmC 0 0 = 98 from rfl, show nmC 0 1 = 116 from rfl, show nmC 0 2 = 109 from rfl, if_neg (by omega), if_neg (by omega), if_neg (by omega)]
  · rw [show nmC 1 0 = 97 from rfl, show nmC 1 1 = 107 from rfl, show nmC 1 2 = 109 from rfl, if_neg (by omega), if_neg (by omega), if_neg (by omega)]
theorem numR_ok {xs : gX} {D : Nat} {M0 : Mem} {Q : Int32 → Mem → Prop} {t : Nat → Nat} {n u o : Nat} {C : List (Nat × Nat)} {x : Int32} (hT : TP M0 t n) (hn : n ≤ 60) (ht : ∀ i, i < n → t i < 256) (hC : C.length < 60) : ∀ k i v a M1, i + k = 4 → a ≤ n → RT M0 u a o C M1 → (∀ M2, RT M0 u (rdN t n k a v).1 o (C ++ [(0, (rdN t n k a v).2)]) M2 → Q 1 M2) → GW xs (D + 1) mX9_one 46 [(0, .ref 64), (1, .int x), (2, .int (nI v)), (3, .int (nI i))] [] M1 (QI Q) := by
  intro k
  induction k with
  | zero =>
    intro i v a M1 hi ha hK hQ
    apply wp_X9_one_64_L46
    exact ite_n (nI_nltI (b := 4) (by omega) (by decide) (by omega)) (lays_ok (0, v) rfl rfl (by omega) hK hQ)
  | succ k ih =>
    intro i v a M1 hi ha hK hQ
    have stop : ¬ (a < n ∧ isD (t a)) → MV xs D mX9_lays [.ref 64, .int 0, .int (nI v)] M1 (fun M2 => Q 1 M2) := by
      intro q
      unfold rdN at hQ
      rw [if_neg q] at hQ
      exact lays_ok (0, v) rfl rfl (by omega) hK hQ
    apply wp_X9_one_64_L46
    refine ite_p (nI_ltI' (b := 4) (by omega) (by decide) (by omega)) (look_ok hT hn ha hK.1 ?_)
    by_cases q1 : a < n
    · have hc := ht a q1
      rw [show lk t n a = nI (t a) from if_pos q1]
      by_cases q2 : t a < 48
      · exact ite_p (nI_ltI' (b := 48) (by omega) (by decide) q2) (stop (fun z => by have := z.2.1; omega))
      · refine ite_n (nI_nltI (b := 48) (by omega) (by decide) (by omega)) ?_
        by_cases q3 : 57 < t a
        · exact ite_p (nI_ltI' (a := 57) (by decide) (by omega) q3) (stop (fun z => by have := z.2.2; omega))
        · refine ite_n (nI_nltI (a := 57) (by decide) (by omega) (by omega)) (look_ok hT hn ha hK.1 ?_)
          rw [show lk t n a = nI (t a) from if_pos q1, hK.1.1, show ((10 * nI v) + nI (t a)) - 48 = nI (10 * v + (t a - 48)) by
            rw [show 10 * nI v = nI (10 * v) from nI_mul 10 v, nI_add, show nI (10 * v + t a) - 48 = nI (10 * v + t a - 48) from pk_sub (a := 10 * v + t a) (b := 48) (by omega), show 10 * v + t a - 48 = 10 * v + (t a - 48) by omega], show nI i + 1 = nI (i + 1) from nI_1 _, show nI a + 1 = nI (a + 1) from nI_1 _]
          unfold rdN at hQ
          rw [if_pos ⟨q1, by omega, by omega⟩] at hQ
          exact ih (i + 1) _ (a + 1) _ (by omega) (by omega) (RT_at (a + 1) hK) hQ
    · rw [show lk t n a = -1 from if_neg q1]
      exact ite_p (by decide) (stop (fun z => q1 z.1))
abbrev mlv (l : Nat) : gM := match l with
  | 0 => mX9_whole
  | 1 => mX9_both
  | 2 => mX9_compared
  | 3 => mX9_sum
  | 4 => mX9_product
  | _ => mX9_one
/-- what the reference's readers do with F to spare -/
def ClR (xs : gX) (t : Nat → Nat) (n u : Nat) (M0 : Mem) (F : Nat) : Prop :=
  (∀ (l o a : Nat) (C : List (Nat × Nat)) (M1 : Mem) (D : Nat) (Q : Int32 → Mem → Prop), l ≤ 5 → o ≤ 5 → a ≤ n → C.length ≤ a → 8 * (n - a) + (6 - l) ≤ F → (5 - l) + 2 + 7 * (5 - o) ≤ D → RT M0 u a o C M1 → (∀ M2, RR M0 u o C (pz t n u F l o 0 a) M2 → Q (b2 (pz t n u F l o 0 a).1) M2) → MI xs D (mlv l) [.ref 64] M1 Q) ∧
  (∀ (l o a : Nat) (C : List (Nat × Nat)) (M1 : Mem) (D : Nat) (Q : Int32 → Mem → Prop), (l = 0 ∨ l = 1 ∨ l = 3 ∨ l = 4) → o ≤ 5 → a ≤ n → C.length ≤ a → 8 * (n - a) + 1 ≤ F → (5 - l) + 2 + 7 * (5 - o) ≤ D → RT M0 u a o C M1 → (∀ M2, RR M0 u o C (pz t n u F (10 + l) o 1 a) M2 → Q (b2 (pz t n u F (10 + l) o 1 a).1) M2) → GW xs D (mlv l) 9 [(0, .ref 64)] [] M1 (QI Q))
theorem rv3 (u c : Nat) : nI c = rv u (3, c) := rfl

theorem classR {xs : gX} {t : Nat → Nat} {n u : Nat} {M0 : Mem} (hT : TP M0 t n) (hn : n ≤ 60) (hu : u < 2) (ht : ∀ i, i < n → t i < 256) : ∀ F F', F' ≤ F → ClR xs t n u M0 F' := by
  intro F
  induction F with
  | zero =>
    intro F' hF'
    exact ⟨fun l o a C M1 D Q h1 h2 h3 h4 h5 => by omega, fun l o a C M1 D Q h1 h2 h3 h4 h5 => by omega⟩
  | succ F IH =>
    intro F' hF'
    rcases (show F' ≤ F ∨ F' = F + 1 by omega) with h | rfl
    · exact IH F' h
    have ih := IH F (Nat.le_refl F)
    -- a sign has been seen
    have sgn : ∀ (l o a : Nat) (C : List (Nat × Nat)) (M1 : Mem) (D : Nat) (Q : Int32 → Mem → Prop) (v : Int32), (l = 0 ∨ l = 1 ∨ l = 3 ∨ l = 4) → o ≤ 5 → a < n → isg l (t a) → v = nI (t a) → C.length ≤ a → 8 * (n - a) + 1 ≤ F + 1 → (5 - l) + 2 + 7 * (5 - o) ≤ D + 1 → RT M0 u a o C M1 → (∀ M2, RR M0 u o C (pz t n u (F + 1) (10 + l) o 1 a) M2 → Q (b2 (pz t n u (F + 1) (10 + l) o 1 a).1) M2) → MI xs D (mlv (l + 1)) [.ref 64] (mw M1 64 5 ((M1.1 64 5) + 1)) (fun r4 M5 => if r4 = 0 then Q 0 M5 else MV xs D mX9_lays [.ref 64, .int 3, .int v] M5 (fun M7 => GW xs (D + 1) (mlv l) 9 [(0, .ref 64)] [] M7 (QI Q))) := by
      intro l o a C M1 D Q v hl ho hna hg hv hC hF hD hK hQ
      rw [hK.1.1, show nI a + 1 = nI (a + 1) from nI_1 _]
      refine ih.1 (l + 1) o (a + 1) C _ D _ (by omega) ho hna (by omega) (by omega) (by omega) (RT_at (a + 1) hK) (fun M2 h2 => ?_)
      rw [pz_l (by omega), show 10 + l - 10 = l by omega, show 10 + l - 9 = l + 1 by omega, if_pos ⟨rfl, hna, hg⟩, if_neg (show ¬ 10 + l = 12 by omega)] at hQ
      have gd := pzP (t := t) (n := n) (u := u) F (l + 1) o 0 (a + 1) hna (by omega)
      revert h2 gd hQ
      generalize pz t n u F (l + 1) o 0 (a + 1) = r
      obtain ⟨rb, ra, rs⟩ := r
      intro hQ h2 gd
      cases rb with
      | false =>
        have kf := h2.2 rfl
        exact ite_p rfl (hQ M2 (RR_f kf))
      | true =>
        have ks : RT M0 u ra o (C ++ rs) M2 := h2.1 rfl
        have g1 : ra ≤ n := gd.2.1
        have g2 : rs.length ≤ ra - (a + 1) := gd.2.2.1
        have g3 : a + 1 < ra := ((gd.2.2.2.2 rfl).1 (by omega)).1
        have gl : (C ++ rs).length = C.length + rs.length := List.length_append
        refine ite_n (show ¬ b2 true = 0 by decide) (lays_ok (3, t a) rfl hv (by omega) ks (fun M3 h3 => ?_))
        have gw := gL2 (C ++ rs) (3, t a)
        refine ih.2 l o ra ((C ++ rs) ++ [(3, t a)]) M3 (D + 1) Q hl ho g1 (by omega) (by omega) (by omega) h3 (fun M4 h4 => ?_)
        have h5 : RR M0 u o C ((pz t n u F (10 + l) o 1 ra).1, (pz t n u F (10 + l) o 1 ra).2.1, rs ++ (3, t a) :: (pz t n u F (10 + l) o 1 ra).2.2) M4 := by
          rw [List.append_assoc] at h4
          have h5 := RR_app h4
          rw [List.append_assoc] at h5
          exact h5
        exact hQ M4 h5
    have nosgn : ∀ (l o a : Nat) (C : List (Nat × Nat)) (M1 : Mem) (Q : Int32 → Mem → Prop), ¬ (a < n ∧ isg l (t a)) → RT M0 u a o C M1 → (∀ M2, RR M0 u o C (pz t n u (F + 1) (10 + l) o 1 a) M2 → Q (b2 (pz t n u (F + 1) (10 + l) o 1 a).1) M2) → Q 1 M1 := by
      intro l o a C M1 Q hg hK hQ
      rw [pz_l (by omega), show 10 + l - 10 = l by omega, if_neg (fun z => hg z.2)] at hQ
      exact hQ M1 (RR_t (by rw [List.append_nil]; exact hK))
    -- a chain: its first part
    have fst : ∀ (l o a : Nat) (C : List (Nat × Nat)) (M1 : Mem) (D : Nat) (Q : Int32 → Mem → Prop) (K : Int32 → Mem → Prop), l ≤ 4 → o ≤ 5 → a ≤ n → C.length ≤ a → 8 * (n - a) + (6 - l) ≤ F + 1 → (5 - l) + 2 + 7 * (5 - o) ≤ D + 1 → RT M0 u a o C M1 → (∀ M2, RR M0 u o C (pz t n u (F + 1) l o 0 a) M2 → Q (b2 (pz t n u (F + 1) l o 0 a).1) M2) → (∀ M2, Q 0 M2 → K 0 M2) → (∀ (ra : Nat) (rs : List (Nat × Nat)) (M2 : Mem), a < ra → ra ≤ n → (C ++ rs).length ≤ ra → RT M0 u ra o (C ++ rs) M2 → (∀ M3, RR M0 u o (C ++ rs) (pz t n u F (10 + l) o 1 ra) M3 → Q (b2 (pz t n u F (10 + l) o 1 ra).1) M3) → K 1 M2) → MI xs D (mlv (l + 1)) [.ref 64] M1 K := by
      intro l o a C M1 D Q K hl ho ha hC hF hD hK hQ k0 k1
      rw [pz_c (by omega)] at hQ
      refine ih.1 (l + 1) o a C M1 D _ (by omega) ho ha hC (by omega) (by omega) hK (fun M2 h2 => ?_)
      have gd := pzP (t := t) (n := n) (u := u) F (l + 1) o 0 a ha (by omega)
      revert h2 gd hQ
      generalize pz t n u F (l + 1) o 0 a = r
      obtain ⟨rb, ra, rs⟩ := r
      intro hQ h2 gd
      cases rb with
      | false =>
        have kf := h2.2 rfl
        exact k0 M2 (hQ M2 (RR_f kf))
      | true =>
        have ks : RT M0 u ra o (C ++ rs) M2 := h2.1 rfl
        have g1 : ra ≤ n := gd.2.1
        have g2 : rs.length ≤ ra - a := gd.2.2.1
        have g3 : a < ra := ((gd.2.2.2.2 rfl).1 (by omega)).1
        have gl : (C ++ rs).length = C.length + rs.length := List.length_append
        exact k1 ra rs M2 g3 g1 (by omega) ks (fun M3 h3 => hQ M3 (RR_app h3))
    refine ⟨?_, ?_⟩
    · intro l o a C M1 D Q hl ho ha hC hF hD hK hQ
      obtain ⟨D, rfl⟩ : ∃ D', D = D' + 1 := ⟨D - 1, by omega⟩
      rcases (show l = 0 ∨ l = 1 ∨ l = 2 ∨ l = 3 ∨ l = 4 ∨ l = 5 by omega) with rfl | rfl | rfl | rfl | rfl | rfl

      · show MI xs (D + 1) mX9_whole [.ref 64] M1 Q
        apply wp_X9_whole_64
        exact fst 0 o a C M1 D Q _ (by omega) ho ha hC hF hD hK hQ (fun M2 h => ite_p rfl h) (fun ra rs M2 g3 g1 g2 ks h => ite_n (by decide) (ih.2 0 o ra (C ++ rs) M2 (D + 1) Q (by omega) ho g1 g2 (by omega) hD ks h))

      · show MI xs (D + 1) mX9_both [.ref 64] M1 Q
        apply wp_X9_both_64
        exact fst 1 o a C M1 D Q _ (by omega) ho ha hC hF hD hK hQ (fun M2 h => ite_p rfl h) (fun ra rs M2 g3 g1 g2 ks h => ite_n (by decide) (ih.2 1 o ra (C ++ rs) M2 (D + 1) Q (by omega) ho g1 g2 (by omega) hD ks h))

      · show MI xs (D + 1) mX9_compared [.ref 64] M1 Q
        apply wp_X9_compared_64
        refine fst 2 o a C M1 D Q _ (by omega) ho ha hC hF hD hK hQ (fun M2 h => ite_p rfl h) (fun ra rs M2 g3 g1 g2 ks h => ite_n (by decide) (look_ok hT hn g1 ks.1 ?_))
        obtain ⟨F2, rfl⟩ : ∃ F2, F = F2 + 2 := ⟨F - 2, by omega⟩
        have ih2 := IH (F2 + 1) (by omega)
        rw [pz_l (by omega), show 10 + 2 - 10 = 2 from rfl, show 10 + 2 - 9 = 3 from rfl, if_pos (show 10 + 2 = 12 from rfl)] at h
        -- one sign more, at most
        have two : isg 2 (t ra) → ra < n → MI xs D mX9_sum [.ref 64] (mw M2 64 5 ((M2.1 64 5) + 1)) (fun r7 M8 => if r7 = 0 then Q 0 M8 else MV xs D mX9_lays [.ref 64, .int 3, .int (lk t n ra)] M8 (fun M10 => Q 1 M10)) := by
          intro hg hna
          rw [if_pos ⟨rfl, hna, hg⟩] at h
          rw [ks.1.1, show nI ra + 1 = nI (ra + 1) from nI_1 _]
          refine ih2.1 3 o (ra + 1) (C ++ rs) _ D _ (by omega) ho hna (by omega) (by omega) (by omega) (RT_at (ra + 1) ks) (fun M3 h3 => ?_)
          have gd := pzP (t := t) (n := n) (u := u) (F2 + 1) 3 o 0 (ra + 1) hna (by omega)
          revert h3 gd h
          generalize pz t n u (F2 + 1) 3 o 0 (ra + 1) = r
          obtain ⟨rb, rc, rt⟩ := r
          intro h h3 gd
          cases rb with
          | false =>
            have kf := h3.2 rfl
            exact ite_p rfl (h M3 (RR_f kf))
          | true =>
            have ks3 : RT M0 u rc o ((C ++ rs) ++ rt) M3 := h3.1 rfl
            have y1 : rc ≤ n := gd.2.1
            have y2 : rt.length ≤ rc - (ra + 1) := gd.2.2.1
            have y3 : ra + 1 < rc := ((gd.2.2.2.2 rfl).1 (by omega)).1
            have yl : ((C ++ rs) ++ rt).length = (C ++ rs).length + rt.length := List.length_append
            refine ite_n (show ¬ b2 true = 0 by decide) (lays_ok (3, t ra) rfl (show lk t n ra = nI (t ra) from if_pos hna) (by omega) ks3 (fun M4 h4 => ?_))
            have h : ∀ M5, RR M0 u o (C ++ rs) (true, rc, rt ++ [(3, t ra)]) M5 → Q 1 M5 := by
              have e : sq4 (t ra) (true, rc, rt) (fun a' => pz t n u (F2 + 1) (10 + 2) o 0 a') = (true, rc, rt ++ [(3, t ra)]) := by
                show ((pz t n u (F2 + 1) (10 + 2) o 0 rc).1, (pz t n u (F2 + 1) (10 + 2) o 0 rc).2.1, rt ++ (3, t ra) :: (pz t n u (F2 + 1) (10 + 2) o 0 rc).2.2) = _
                rw [pz_l (by omega), if_neg (fun z => absurd z.1 (by decide))]
              rw [e] at h
              exact h
            refine h M4 (RR_t ?_)
            rw [← List.append_assoc]
            exact h4
        have none' : ¬ (ra < n ∧ isg 2 (t ra)) → Q 1 M2 := by
          intro hg
          rw [if_neg (fun z => hg z.2)] at h
          exact h M2 (RR_t (by rw [List.append_nil]; exact ks))
        by_cases q0 : ra < n ∧ t ra = 60
        · exact ite_p ((lk_eq (c := 60) ht (by decide)).mpr q0) (two (by unfold isg; omega) q0.1)
        · refine ite_n (fun z => q0 ((lk_eq (c := 60) ht (by decide)).mp z)) ?_
          by_cases q1 : ra < n ∧ t ra = 61
          · exact ite_p ((lk_eq (c := 61) ht (by decide)).mpr q1) (two (by unfold isg; omega) q1.1)
          · refine ite_n (fun z => q1 ((lk_eq (c := 61) ht (by decide)).mp z)) ?_
            by_cases q2 : ra < n ∧ t ra = 62
            · exact ite_p ((lk_eq (c := 62) ht (by decide)).mpr q2) (two (by unfold isg; omega) q2.1)
            · refine ite_n (fun z => q2 ((lk_eq (c := 62) ht (by decide)).mp z)) (none' ?_)
              unfold isg
              omega

      · show MI xs (D + 1) mX9_sum [.ref 64] M1 Q
        apply wp_X9_sum_64
        exact fst 3 o a C M1 D Q _ (by omega) ho ha hC hF hD hK hQ (fun M2 h => ite_p rfl h) (fun ra rs M2 g3 g1 g2 ks h => ite_n (by decide) (ih.2 3 o ra (C ++ rs) M2 (D + 1) Q (by omega) ho g1 g2 (by omega) hD ks h))

      · show MI xs (D + 1) mX9_product [.ref 64] M1 Q
        apply wp_X9_product_64
        exact fst 4 o a C M1 D Q _ (by omega) ho ha hC hF hD hK hQ (fun M2 h => ite_p rfl h) (fun ra rs M2 g3 g1 g2 ks h => ite_n (by decide) (ih.2 4 o ra (C ++ rs) M2 (D + 1) Q (by omega) ho g1 g2 (by omega) hD ks h))

      · show MI xs (D + 1) mX9_one [.ref 64] M1 Q
        rw [pz_1] at hQ
        unfold on1 at hQ
        apply wp_X9_one_64
        refine look_ok hT hn ha hK.1 ?_
        by_cases hna : a < n
        · have hc := ht a hna
          rw [if_pos hna] at hQ
          rw [show lk t n a = nI (t a) from if_pos hna]
          refine isName_c hu hc hK ?_
          by_cases hd : isD (t a)
          · rw [if_pos hd] at hQ
            rw [if_pos (nix_D hu hd)]
            refine ite_p rfl (ite_n (nI_nltI (b := 48) (by omega) (by decide) hd.1) (ite_n (nI_nltI (a := 57) (by decide) (by omega) hd.2) ?_))
            exact numR_ok hT hn ht (by omega) 4 0 0 a M1 (by omega) ha hK (fun M2 h2 => hQ M2 (RR_t h2))
          · rw [if_neg hd] at hQ
            cases hx : nix u (t a) with
            | some i =>
              rw [hx] at hQ
              dsimp only at hQ
              rw [if_neg (show ¬ (some i = none) from fun z => by cases z), hK.1.1, show nI a + 1 = nI (a + 1) from nI_1 _]
              refine ite_n (show ¬ (1 : Int32) = 0 by decide) (lays_ok (1, i) rfl ?_ (by omega) (RT_at (a + 1) hK) (fun M2 h2 => hQ M2 (RR_t h2)))
              show nI (t a) = nI (nmC u i)
              rw [(nix_lt hx).2]
            | none =>
              rw [hx] at hQ
              dsimp only at hQ
              rw [if_pos rfl]
              have hQ : ∀ M2, RR M0 u o C (if t a = 33 then (if o < 5 then sq2 (pz t n u F 5 (o + 1) 0 (a + 1)) else (false, a, [])) else (if t a = 40 then (if o < 5 then sq3 t n (pz t n u F 0 (o + 1) 0 (a + 1)) else (false, a, [])) else (if o < 5 then (false, a, []) else (false, a, [])))) M2 → Q (b2 (if t a = 33 then (if o < 5 then sq2 (pz t n u F 5 (o + 1) 0 (a + 1)) else (false, a, [])) else (if t a = 40 then (if o < 5 then sq3 t n (pz t n u F 0 (o + 1) 0 (a + 1)) else (false, a, [])) else (if o < 5 then (false, a, []) else (false, a, [])))).1) M2 := by
                by_cases o5 : o < 5
                · rw [if_pos o5] at hQ
                  simp only [if_pos o5]
                  exact hQ
                · rw [if_neg o5] at hQ
                  simp only [if_neg o5]
                  have e : (if t a = 33 then ((false, a, []) : PR) else (if t a = 40 then (false, a, []) else (false, a, []))) = (false, a, []) := by
                    by_cases x1 : t a = 33
                    · rw [if_pos x1]
                    · rw [if_neg x1]
                      by_cases x2 : t a = 40
                      · rw [if_pos x2]
                      · rw [if_neg x2]
                  rw [e]
                  exact hQ
              refine ite_p rfl ?_
              by_cases q48 : t a < 48
              · refine ite_p (nI_ltI' (b := 48) (by omega) (by decide) q48) ?_
                by_cases e33 : t a = 33
                · rw [if_pos e33] at hQ
                  refine ite_p (by rw [e33]; rfl) ?_
                  rw [hK.2.1, hK.1.1, show nI a + 1 = nI (a + 1) from nI_1 _, show nI o + 1 = nI (o + 1) from nI_1 _]
                  by_cases o5 : o < 5
                  · rw [if_pos o5] at hQ
                    refine ite_n (nI_ne (b := 5) (by omega) (by decide) (by omega)) (ih.1 5 (o + 1) (a + 1) C _ D _ (by omega) (by omega) hna (by omega) (by omega) (by omega) (RT_at (a + 1) (RT_op (o + 1) hK)) (fun M2 h2 => ?_))
                    have gd := pzP (t := t) (n := n) (u := u) F 5 (o + 1) 0 (a + 1) (by omega) (by omega)
                    revert h2 gd hQ
                    generalize pz t n u F 5 (o + 1) 0 (a + 1) = r
                    obtain ⟨rb, ra, rs⟩ := r
                    intro hQ h2 gd
                    cases rb with
                    | false =>
                      have kf := h2.2 rfl
                      exact ite_p rfl (hQ M2 (RR_f kf))
                    | true =>
                      have ks : RT M0 u ra (o + 1) (C ++ rs) M2 := h2.1 rfl
                      have g1 : ra ≤ n := gd.2.1
                      have g2 : rs.length ≤ ra - (a + 1) := gd.2.2.1
                      have g3 : a + 1 < ra := ((gd.2.2.2.2 rfl).1 (by omega)).1
                      have gl : (C ++ rs).length = C.length + rs.length := List.length_append
                      refine ite_n (show ¬ b2 true = 0 by decide) ?_
                      rw [ks.2.1, show nI (o + 1) - 1 = nI o from nI_pred o]
                      refine lays_ok (2, 0) rfl rfl (by omega) (RT_op o ks) (fun M3 h3 => hQ M3 (RR_t ?_))
                      rw [← List.append_assoc]
                      exact h3
                  · rw [if_neg o5] at hQ
                    exact ite_p (by rw [show o = 5 by omega]; rfl) (hQ M1 (RR_f hK.1))
                · rw [if_neg e33] at hQ
                  refine ite_n (nI_ne (b := 33) (by omega) (by decide) e33) ?_
                  by_cases e40 : t a = 40
                  · rw [if_pos e40] at hQ
                    refine ite_p (by rw [e40]; rfl) ?_
                    rw [hK.2.1, hK.1.1, show nI a + 1 = nI (a + 1) from nI_1 _, show nI o + 1 = nI (o + 1) from nI_1 _]
                    by_cases o5 : o < 5
                    · rw [if_pos o5] at hQ
                      refine ite_n (nI_ne (b := 5) (by omega) (by decide) (by omega)) (ih.1 0 (o + 1) (a + 1) C _ D _ (by omega) (by omega) hna (by omega) (by omega) (by omega) (RT_at (a + 1) (RT_op (o + 1) hK)) (fun M2 h2 => ?_))
                      have gd := pzP (t := t) (n := n) (u := u) F 0 (o + 1) 0 (a + 1) (by omega) (by omega)
                      revert h2 gd hQ
                      generalize pz t n u F 0 (o + 1) 0 (a + 1) = r
                      obtain ⟨rb, ra, rs⟩ := r
                      intro hQ h2 gd
                      cases rb with
                      | false =>
                        have kf := h2.2 rfl
                        exact ite_p rfl (hQ M2 (RR_f kf))
                      | true =>
                        have ks : RT M0 u ra (o + 1) (C ++ rs) M2 := h2.1 rfl
                        have g1 : ra ≤ n := gd.2.1
                        refine ite_n (show ¬ b2 true = 0 by decide) (look_ok hT hn g1 ks.1 ?_)
                        rw [ks.1.1, show nI ra + 1 = nI (ra + 1) from nI_1 _]
                        by_cases q1 : ra < n ∧ t ra = 41
                        · have hQ : ∀ M2, RR M0 u o C (true, ra + 1, rs) M2 → Q 1 M2 := by
                            have e : sq3 t n (true, ra, rs) = (true, ra + 1, rs) := if_pos ⟨rfl, q1⟩
                            rw [e] at hQ
                            exact hQ
                          refine ite_p ((lk_eq (c := 41) ht (by decide)).mpr q1) ?_
                          have ka := RT_at (ra + 1) ks
                          rw [ks.2.1, show nI (o + 1) - 1 = nI o from nI_pred o]
                          exact hQ _ (RR_t (RT_op o ka))
                        · have hQ : ∀ M2, RR M0 u o C (false, ra, []) M2 → Q 0 M2 := by
                            have e : sq3 t n (true, ra, rs) = (false, ra, []) := if_neg (fun z => q1 z.2)
                            rw [e] at hQ
                            exact hQ
                          exact ite_n (fun z => q1 ((lk_eq (c := 41) ht (by decide)).mp z)) (hQ M2 (RR_f ks.1))
                    · rw [if_neg o5] at hQ
                      exact ite_p (by rw [show o = 5 by omega]; rfl) (hQ M1 (RR_f hK.1))
                  · rw [if_neg e40] at hQ
                    have hQ : ∀ M2, RR M0 u o C (false, a, []) M2 → Q 0 M2 := by
                      by_cases o5 : o < 5
                      · rw [if_pos o5] at hQ; exact hQ
                      · rw [if_neg o5] at hQ; exact hQ
                    exact ite_n (nI_ne (b := 40) (by omega) (by decide) e40) (hQ M1 (RR_f hK.1))
              · refine ite_n (nI_nltI (b := 48) (by omega) (by decide) (by omega)) (ite_p (nI_ltI' (a := 57) (by decide) (by omega) (by omega)) ?_)
                by_cases e33 : t a = 33
                · rw [if_pos e33] at hQ
                  refine ite_p (by rw [e33]; rfl) ?_
                  rw [hK.2.1, hK.1.1, show nI a + 1 = nI (a + 1) from nI_1 _, show nI o + 1 = nI (o + 1) from nI_1 _]
                  by_cases o5 : o < 5
                  · rw [if_pos o5] at hQ
                    refine ite_n (nI_ne (b := 5) (by omega) (by decide) (by omega)) (ih.1 5 (o + 1) (a + 1) C _ D _ (by omega) (by omega) hna (by omega) (by omega) (by omega) (RT_at (a + 1) (RT_op (o + 1) hK)) (fun M2 h2 => ?_))
                    have gd := pzP (t := t) (n := n) (u := u) F 5 (o + 1) 0 (a + 1) (by omega) (by omega)
                    revert h2 gd hQ
                    generalize pz t n u F 5 (o + 1) 0 (a + 1) = r
                    obtain ⟨rb, ra, rs⟩ := r
                    intro hQ h2 gd
                    cases rb with
                    | false =>
                      have kf := h2.2 rfl
                      exact ite_p rfl (hQ M2 (RR_f kf))
                    | true =>
                      have ks : RT M0 u ra (o + 1) (C ++ rs) M2 := h2.1 rfl
                      have g1 : ra ≤ n := gd.2.1
                      have g2 : rs.length ≤ ra - (a + 1) := gd.2.2.1
                      have g3 : a + 1 < ra := ((gd.2.2.2.2 rfl).1 (by omega)).1
                      have gl : (C ++ rs).length = C.length + rs.length := List.length_append
                      refine ite_n (show ¬ b2 true = 0 by decide) ?_
                      rw [ks.2.1, show nI (o + 1) - 1 = nI o from nI_pred o]
                      refine lays_ok (2, 0) rfl rfl (by omega) (RT_op o ks) (fun M3 h3 => hQ M3 (RR_t ?_))
                      rw [← List.append_assoc]
                      exact h3
                  · rw [if_neg o5] at hQ
                    exact ite_p (by rw [show o = 5 by omega]; rfl) (hQ M1 (RR_f hK.1))
                · rw [if_neg e33] at hQ
                  refine ite_n (nI_ne (b := 33) (by omega) (by decide) e33) ?_
                  by_cases e40 : t a = 40
                  · rw [if_pos e40] at hQ
                    refine ite_p (by rw [e40]; rfl) ?_
                    rw [hK.2.1, hK.1.1, show nI a + 1 = nI (a + 1) from nI_1 _, show nI o + 1 = nI (o + 1) from nI_1 _]
                    by_cases o5 : o < 5
                    · rw [if_pos o5] at hQ
                      refine ite_n (nI_ne (b := 5) (by omega) (by decide) (by omega)) (ih.1 0 (o + 1) (a + 1) C _ D _ (by omega) (by omega) hna (by omega) (by omega) (by omega) (RT_at (a + 1) (RT_op (o + 1) hK)) (fun M2 h2 => ?_))
                      have gd := pzP (t := t) (n := n) (u := u) F 0 (o + 1) 0 (a + 1) (by omega) (by omega)
                      revert h2 gd hQ
                      generalize pz t n u F 0 (o + 1) 0 (a + 1) = r
                      obtain ⟨rb, ra, rs⟩ := r
                      intro hQ h2 gd
                      cases rb with
                      | false =>
                        have kf := h2.2 rfl
                        exact ite_p rfl (hQ M2 (RR_f kf))
                      | true =>
                        have ks : RT M0 u ra (o + 1) (C ++ rs) M2 := h2.1 rfl
                        have g1 : ra ≤ n := gd.2.1
                        refine ite_n (show ¬ b2 true = 0 by decide) (look_ok hT hn g1 ks.1 ?_)
                        rw [ks.1.1, show nI ra + 1 = nI (ra + 1) from nI_1 _]
                        by_cases q1 : ra < n ∧ t ra = 41
                        · have hQ : ∀ M2, RR M0 u o C (true, ra + 1, rs) M2 → Q 1 M2 := by
                            have e : sq3 t n (true, ra, rs) = (true, ra + 1, rs) := if_pos ⟨rfl, q1⟩
                            rw [e] at hQ
                            exact hQ
                          refine ite_p ((lk_eq (c := 41) ht (by decide)).mpr q1) ?_
                          have ka := RT_at (ra + 1) ks
                          rw [ks.2.1, show nI (o + 1) - 1 = nI o from nI_pred o]
                          exact hQ _ (RR_t (RT_op o ka))
                        · have hQ : ∀ M2, RR M0 u o C (false, ra, []) M2 → Q 0 M2 := by
                            have e : sq3 t n (true, ra, rs) = (false, ra, []) := if_neg (fun z => q1 z.2)
                            rw [e] at hQ
                            exact hQ
                          exact ite_n (fun z => q1 ((lk_eq (c := 41) ht (by decide)).mp z)) (hQ M2 (RR_f ks.1))
                    · rw [if_neg o5] at hQ
                      exact ite_p (by rw [show o = 5 by omega]; rfl) (hQ M1 (RR_f hK.1))
                  · rw [if_neg e40] at hQ
                    have hQ : ∀ M2, RR M0 u o C (false, a, []) M2 → Q 0 M2 := by
                      by_cases o5 : o < 5
                      · rw [if_pos o5] at hQ; exact hQ
                      · rw [if_neg o5] at hQ; exact hQ
                    exact ite_n (nI_ne (b := 40) (by omega) (by decide) e40) (hQ M1 (RR_f hK.1))
        · rw [if_neg hna] at hQ
          rw [show lk t n a = -1 from if_neg hna]
          exact isName_m (ite_p rfl (ite_p (by decide) (ite_n (by decide) (ite_n (by decide) (hQ M1 (RR_f hK.1))))))
    · intro l o a C M1 D Q hl ho ha hC hF hD hK hQ
      obtain ⟨D, rfl⟩ : ∃ D', D = D' + 1 := ⟨D - 1, by omega⟩
      rcases hl with rfl | rfl | rfl | rfl
      · show GW xs (D + 1) mX9_whole 9 [(0, .ref 64)] [] M1 (QI Q)
        apply wp_X9_whole_64_L9
        refine look_ok hT hn ha hK.1 ?_
        by_cases q0 : a < n ∧ t a = 124
        · exact ite_p ((lk_eq (c := 124) ht (by decide)).mpr q0) (sgn 0 o a C M1 D Q 124 (by omega) ho q0.1 (by unfold isg; omega) (by rw [q0.2]; rfl) hC hF hD hK hQ)
        · exact ite_n (fun z => q0 ((lk_eq (c := 124) ht (by decide)).mp z)) (nosgn 0 o a C M1 Q (by unfold isg; omega) hK hQ)
      · show GW xs (D + 1) mX9_both 9 [(0, .ref 64)] [] M1 (QI Q)
        apply wp_X9_both_64_L9
        refine look_ok hT hn ha hK.1 ?_
        by_cases q0 : a < n ∧ t a = 38
        · exact ite_p ((lk_eq (c := 38) ht (by decide)).mpr q0) (sgn 1 o a C M1 D Q 38 (by omega) ho q0.1 (by unfold isg; omega) (by rw [q0.2]; rfl) hC hF hD hK hQ)
        · exact ite_n (fun z => q0 ((lk_eq (c := 38) ht (by decide)).mp z)) (nosgn 1 o a C M1 Q (by unfold isg; omega) hK hQ)
      · show GW xs (D + 1) mX9_sum 9 [(0, .ref 64)] [] M1 (QI Q)
        apply wp_X9_sum_64_L9
        refine look_ok hT hn ha hK.1 ?_
        by_cases q0 : a < n ∧ t a = 43
        · refine ite_p ((lk_eq (c := 43) ht (by decide)).mpr q0) (look_ok hT hn ha hK.1 ?_)
          exact sgn 3 o a C M1 D Q _ (by omega) ho q0.1 (by unfold isg; omega) (show lk t n a = nI (t a) from if_pos q0.1) hC hF hD hK hQ
        · refine ite_n (fun z => q0 ((lk_eq (c := 43) ht (by decide)).mp z)) ?_
          refine look_ok hT hn ha hK.1 ?_
          by_cases q1 : a < n ∧ t a = 45
          · refine ite_p ((lk_eq (c := 45) ht (by decide)).mpr q1) (look_ok hT hn ha hK.1 ?_)
            exact sgn 3 o a C M1 D Q _ (by omega) ho q1.1 (by unfold isg; omega) (show lk t n a = nI (t a) from if_pos q1.1) hC hF hD hK hQ
          · refine ite_n (fun z => q1 ((lk_eq (c := 45) ht (by decide)).mp z)) ?_
            exact nosgn 3 o a C M1 Q (by unfold isg; omega) hK hQ
      · show GW xs (D + 1) mX9_product 9 [(0, .ref 64)] [] M1 (QI Q)
        apply wp_X9_product_64_L9
        refine look_ok hT hn ha hK.1 ?_
        by_cases q0 : a < n ∧ t a = 42
        · refine ite_p ((lk_eq (c := 42) ht (by decide)).mpr q0) (look_ok hT hn ha hK.1 ?_)
          exact sgn 4 o a C M1 D Q _ (by omega) ho q0.1 (by unfold isg; omega) (show lk t n a = nI (t a) from if_pos q0.1) hC hF hD hK hQ
        · refine ite_n (fun z => q0 ((lk_eq (c := 42) ht (by decide)).mp z)) ?_
          refine look_ok hT hn ha hK.1 ?_
          by_cases q1 : a < n ∧ t a = 47
          · refine ite_p ((lk_eq (c := 47) ht (by decide)).mpr q1) (look_ok hT hn ha hK.1 ?_)
            exact sgn 4 o a C M1 D Q _ (by omega) ho q1.1 (by unfold isg; omega) (show lk t n a = nI (t a) from if_pos q1.1) hC hF hD hK hQ
          · refine ite_n (fun z => q1 ((lk_eq (c := 47) ht (by decide)).mp z)) ?_
            refine look_ok hT hn ha hK.1 ?_
            by_cases q2 : a < n ∧ t a = 37
            · refine ite_p ((lk_eq (c := 37) ht (by decide)).mpr q2) (look_ok hT hn ha hK.1 ?_)
              exact sgn 4 o a C M1 D Q _ (by omega) ho q2.1 (by unfold isg; omega) (show lk t n a = nI (t a) from if_pos q2.1) hC hF hD hK hQ
            · refine ite_n (fun z => q2 ((lk_eq (c := 37) ht (by decide)).mp z)) ?_
              exact nosgn 4 o a C M1 Q (by unfold isg; omega) hK hQ
