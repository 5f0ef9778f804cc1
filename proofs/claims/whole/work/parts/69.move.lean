/-! ===== move: the pairs of sheets ===== -/
/-- what the class asks of a move, for sheets with cells a, b and rows c, e -/
def mvF (M : Mem) (a b c e : Nat) (i j n : Int32) (E1 E2 E5 : Prop) (K : Mem → Prop) : Prop := if M.1 a 1 = 0 then E2 else (if M.1 b 1 = 0 then E2 else (if M.1 a 1 = M.1 b 1 then (if n < 0 then E1 else (if M.1 a 2 < n then E1 else (if i < 0 then E1 else (if M.1 a 2 - n < i then E1 else (if M.1 b 2 < n then E1 else (if j < 0 then E1 else (if M.1 b 2 - n < j then E1 else (CPK i j n 24 24 ∧ K (mwA M e (va_cpy (M.1 c) (M.1 e) i.toNatClampNeg j.toNatClampNeg n.toNatClampNeg)))))))))) else E5))
theorem moveC {xs : gX} {d q1 q3 : Nat} {M : Mem} {Q : Int32 → Mem → Prop} {i j n : Int32} (h1 : q1 < 4) (h3 : q3 < 4) (h : mvF M (7 + q1) (7 + q3) (11 + q1) (11 + q3) i j n (Q (((-1000000000) : Int32) - 1) (mw M 6 1 ((M.1 6 1) + 1))) (Q (((-1000000000) : Int32) - 2) (mw M 6 2 ((M.1 6 2) + 1))) (Q (((-1000000000) : Int32) - 5) (mw M 6 5 ((M.1 6 5) + 1))) (Q n)) : MI xs (d + 1) mX8_move [.ref 0, .int (nI q1), .int i, .int (nI q3), .int j, .int n] M Q := by
  unfold mvF at h
  rcases q4 h1 with rfl | rfl | rfl | rfl <;> rcases q4 h3 with rfl | rfl | rfl | rfl
  · apply wp_X8_move_0
    refine ite_n (by decide) (ite_p (by decide) (ite_n (by decide) (ite_p (by decide) ⟨vin (by decide), (fun _ => ⟨vin (by decide), (fun _ => ?_), (fun e => absurd e (by decide)), (fun e => absurd e (by decide)), (fun e => absurd e (by decide))⟩), (fun e => absurd e (by decide)), (fun e => absurd e (by decide)), (fun e => absurd e (by decide))⟩)))
    rw [show 7 + 0 = 7 from rfl, show 11 + 0 = 11 from rfl] at h
    by_cases z0 : M.1 7 1 = 0
    · rw [if_pos z0] at h; exact ite_p z0 h
    · rw [if_neg z0, if_neg z0, if_pos rfl] at h
      refine ite_n z0 (ite_p rfl ?_)
      by_cases z1 : n < 0
      · rw [if_pos z1] at h; exact ite_p z1 h
      · rw [if_neg z1] at h
        refine ite_n z1 ?_
        by_cases z2 : M.1 7 2 < n
        · rw [if_pos z2] at h; exact ite_p z2 h
        · rw [if_neg z2] at h
          refine ite_n z2 ?_
          by_cases z3 : i < 0
          · rw [if_pos z3] at h; exact ite_p z3 h
          · rw [if_neg z3] at h
            refine ite_n z3 ?_
            by_cases z4 : M.1 7 2 - n < i
            · rw [if_pos z4] at h; exact ite_p z4 h
            · rw [if_neg z4, if_neg z2] at h
              exact ite_n z4 h
  · apply wp_X8_move_0
    refine ite_n (by decide) (ite_p (by decide) (ite_n (by decide) (ite_p (by decide) ⟨vin (by decide), (fun _ => ⟨vin (by decide), (fun e => absurd e (by decide)), (fun _ => ?_), (fun e => absurd e (by decide)), (fun e => absurd e (by decide))⟩), (fun e => absurd e (by decide)), (fun e => absurd e (by decide)), (fun e => absurd e (by decide))⟩)))
    exact h
  · apply wp_X8_move_0
    refine ite_n (by decide) (ite_p (by decide) (ite_n (by decide) (ite_p (by decide) ⟨vin (by decide), (fun _ => ⟨vin (by decide), (fun e => absurd e (by decide)), (fun e => absurd e (by decide)), (fun _ => ?_), (fun e => absurd e (by decide))⟩), (fun e => absurd e (by decide)), (fun e => absurd e (by decide)), (fun e => absurd e (by decide))⟩)))
    exact h
  · apply wp_X8_move_0
    refine ite_n (by decide) (ite_p (by decide) (ite_n (by decide) (ite_p (by decide) ⟨vin (by decide), (fun _ => ⟨vin (by decide), (fun e => absurd e (by decide)), (fun e => absurd e (by decide)), (fun e => absurd e (by decide)), (fun _ => ?_)⟩), (fun e => absurd e (by decide)), (fun e => absurd e (by decide)), (fun e => absurd e (by decide))⟩)))
    exact h
  · apply wp_X8_move_0
    refine ite_n (by decide) (ite_p (by decide) (ite_n (by decide) (ite_p (by decide) ⟨vin (by decide), (fun e => absurd e (by decide)), (fun _ => ⟨vin (by decide), (fun _ => ?_), (fun e => absurd e (by decide)), (fun e => absurd e (by decide)), (fun e => absurd e (by decide))⟩), (fun e => absurd e (by decide)), (fun e => absurd e (by decide))⟩)))
    exact h
  · apply wp_X8_move_0
    refine ite_n (by decide) (ite_p (by decide) (ite_n (by decide) (ite_p (by decide) ⟨vin (by decide), (fun e => absurd e (by decide)), (fun _ => ⟨vin (by decide), (fun e => absurd e (by decide)), (fun _ => ?_), (fun e => absurd e (by decide)), (fun e => absurd e (by decide))⟩), (fun e => absurd e (by decide)), (fun e => absurd e (by decide))⟩)))
    rw [show 7 + 1 = 8 from rfl, show 11 + 1 = 12 from rfl] at h
    by_cases z0 : M.1 8 1 = 0
    · rw [if_pos z0] at h; exact ite_p z0 h
    · rw [if_neg z0, if_neg z0, if_pos rfl] at h
      refine ite_n z0 (ite_p rfl ?_)
      by_cases z1 : n < 0
      · rw [if_pos z1] at h; exact ite_p z1 h
      · rw [if_neg z1] at h
        refine ite_n z1 ?_
        by_cases z2 : M.1 8 2 < n
        · rw [if_pos z2] at h; exact ite_p z2 h
        · rw [if_neg z2] at h
          refine ite_n z2 ?_
          by_cases z3 : i < 0
          · rw [if_pos z3] at h; exact ite_p z3 h
          · rw [if_neg z3] at h
            refine ite_n z3 ?_
            by_cases z4 : M.1 8 2 - n < i
            · rw [if_pos z4] at h; exact ite_p z4 h
            · rw [if_neg z4, if_neg z2] at h
              exact ite_n z4 h
  · apply wp_X8_move_0
    refine ite_n (by decide) (ite_p (by decide) (ite_n (by decide) (ite_p (by decide) ⟨vin (by decide), (fun e => absurd e (by decide)), (fun _ => ⟨vin (by decide), (fun e => absurd e (by decide)), (fun e => absurd e (by decide)), (fun _ => ?_), (fun e => absurd e (by decide))⟩), (fun e => absurd e (by decide)), (fun e => absurd e (by decide))⟩)))
    exact h
  · apply wp_X8_move_0
    refine ite_n (by decide) (ite_p (by decide) (ite_n (by decide) (ite_p (by decide) ⟨vin (by decide), (fun e => absurd e (by decide)), (fun _ => ⟨vin (by decide), (fun e => absurd e (by decide)), (fun e => absurd e (by decide)), (fun e => absurd e (by decide)), (fun _ => ?_)⟩), (fun e => absurd e (by decide)), (fun e => absurd e (by decide))⟩)))
    exact h
  · apply wp_X8_move_0
    refine ite_n (by decide) (ite_p (by decide) (ite_n (by decide) (ite_p (by decide) ⟨vin (by decide), (fun e => absurd e (by decide)), (fun e => absurd e (by decide)), (fun _ => ⟨vin (by decide), (fun _ => ?_), (fun e => absurd e (by decide)), (fun e => absurd e (by decide)), (fun e => absurd e (by decide))⟩), (fun e => absurd e (by decide))⟩)))
    exact h
  · apply wp_X8_move_0
    refine ite_n (by decide) (ite_p (by decide) (ite_n (by decide) (ite_p (by decide) ⟨vin (by decide), (fun e => absurd e (by decide)), (fun e => absurd e (by decide)), (fun _ => ⟨vin (by decide), (fun e => absurd e (by decide)), (fun _ => ?_), (fun e => absurd e (by decide)), (fun e => absurd e (by decide))⟩), (fun e => absurd e (by decide))⟩)))
    exact h
  · apply wp_X8_move_0
    refine ite_n (by decide) (ite_p (by decide) (ite_n (by decide) (ite_p (by decide) ⟨vin (by decide), (fun e => absurd e (by decide)), (fun e => absurd e (by decide)), (fun _ => ⟨vin (by decide), (fun e => absurd e (by decide)), (fun e => absurd e (by decide)), (fun _ => ?_), (fun e => absurd e (by decide))⟩), (fun e => absurd e (by decide))⟩)))
    rw [show 7 + 2 = 9 from rfl, show 11 + 2 = 13 from rfl] at h
    by_cases z0 : M.1 9 1 = 0
    · rw [if_pos z0] at h; exact ite_p z0 h
    · rw [if_neg z0, if_neg z0, if_pos rfl] at h
      refine ite_n z0 (ite_p rfl ?_)
      by_cases z1 : n < 0
      · rw [if_pos z1] at h; exact ite_p z1 h
      · rw [if_neg z1] at h
        refine ite_n z1 ?_
        by_cases z2 : M.1 9 2 < n
        · rw [if_pos z2] at h; exact ite_p z2 h
        · rw [if_neg z2] at h
          refine ite_n z2 ?_
          by_cases z3 : i < 0
          · rw [if_pos z3] at h; exact ite_p z3 h
          · rw [if_neg z3] at h
            refine ite_n z3 ?_
            by_cases z4 : M.1 9 2 - n < i
            · rw [if_pos z4] at h; exact ite_p z4 h
            · rw [if_neg z4, if_neg z2] at h
              exact ite_n z4 h
  · apply wp_X8_move_0
    refine ite_n (by decide) (ite_p (by decide) (ite_n (by decide) (ite_p (by decide) ⟨vin (by decide), (fun e => absurd e (by decide)), (fun e => absurd e (by decide)), (fun _ => ⟨vin (by decide), (fun e => absurd e (by decide)), (fun e => absurd e (by decide)), (fun e => absurd e (by decide)), (fun _ => ?_)⟩), (fun e => absurd e (by decide))⟩)))
    exact h
  · apply wp_X8_move_0
    refine ite_n (by decide) (ite_p (by decide) (ite_n (by decide) (ite_p (by decide) ⟨vin (by decide), (fun e => absurd e (by decide)), (fun e => absurd e (by decide)), (fun e => absurd e (by decide)), (fun _ => ⟨vin (by decide), (fun _ => ?_), (fun e => absurd e (by decide)), (fun e => absurd e (by decide)), (fun e => absurd e (by decide))⟩)⟩)))
    exact h
  · apply wp_X8_move_0
    refine ite_n (by decide) (ite_p (by decide) (ite_n (by decide) (ite_p (by decide) ⟨vin (by decide), (fun e => absurd e (by decide)), (fun e => absurd e (by decide)), (fun e => absurd e (by decide)), (fun _ => ⟨vin (by decide), (fun e => absurd e (by decide)), (fun _ => ?_), (fun e => absurd e (by decide)), (fun e => absurd e (by decide))⟩)⟩)))
    exact h
  · apply wp_X8_move_0
    refine ite_n (by decide) (ite_p (by decide) (ite_n (by decide) (ite_p (by decide) ⟨vin (by decide), (fun e => absurd e (by decide)), (fun e => absurd e (by decide)), (fun e => absurd e (by decide)), (fun _ => ⟨vin (by decide), (fun e => absurd e (by decide)), (fun e => absurd e (by decide)), (fun _ => ?_), (fun e => absurd e (by decide))⟩)⟩)))
    exact h
  · apply wp_X8_move_0
    refine ite_n (by decide) (ite_p (by decide) (ite_n (by decide) (ite_p (by decide) ⟨vin (by decide), (fun e => absurd e (by decide)), (fun e => absurd e (by decide)), (fun e => absurd e (by decide)), (fun _ => ⟨vin (by decide), (fun e => absurd e (by decide)), (fun e => absurd e (by decide)), (fun e => absurd e (by decide)), (fun _ => ?_)⟩)⟩)))
    rw [show 7 + 3 = 10 from rfl, show 11 + 3 = 14 from rfl] at h
    by_cases z0 : M.1 10 1 = 0
    · rw [if_pos z0] at h; exact ite_p z0 h
    · rw [if_neg z0, if_neg z0, if_pos rfl] at h
      refine ite_n z0 (ite_p rfl ?_)
      by_cases z1 : n < 0
      · rw [if_pos z1] at h; exact ite_p z1 h
      · rw [if_neg z1] at h
        refine ite_n z1 ?_
        by_cases z2 : M.1 10 2 < n
        · rw [if_pos z2] at h; exact ite_p z2 h
        · rw [if_neg z2] at h
          refine ite_n z2 ?_
          by_cases z3 : i < 0
          · rw [if_pos z3] at h; exact ite_p z3 h
          · rw [if_neg z3] at h
            refine ite_n z3 ?_
            by_cases z4 : M.1 10 2 - n < i
            · rw [if_pos z4] at h; exact ite_p z4 h
            · rw [if_neg z4, if_neg z2] at h
              exact ite_n z4 h
