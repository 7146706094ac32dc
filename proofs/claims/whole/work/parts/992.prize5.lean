theorem ROW_of {cp n : Nat} {sn : Nat → Bool} {x m : St} (h : WR cp n sn x m) (h1 : x (cp + 1) n = m 43 n ∧ 1 ≤ m 43 n ∧ m 43 n ≤ 24) (h2 : x (cp + 2) n = m 44 n ∧ 0 ≤ m 44 n ∧ m 44 n ≤ 1) : ROW cp n x m := by
  have a0 := h 0 (by omega)
  have a1 := h 1 (by omega)
  have a2 := h 2 (by omega)
  have a3 := h 3 (by omega)
  have l0 : leastW 0 = 0 ∧ greatW 0 = 7 := by decide
  have l1 : leastW 1 = 0 ∧ greatW 1 = 3 := by decide
  have l2 : leastW 2 = 0 ∧ greatW 2 = 15 := by decide
  have l3 : leastW 3 = 1 ∧ greatW 3 = 12 := by decide
  simp only [Nat.add_zero, Nat.reduceAdd, show cp + 4 + 1 = cp + 5 from rfl, show cp + 4 + 2 = cp + 6 from rfl, show cp + 4 + 3 = cp + 7 from rfl] at a0 a1 a2 a3
  refine ⟨?_, ?_, ?_, ?_, h1, h2⟩
  · cases e : sn 0 with
    | false => have z := a0.1 e; simp at z; rw [z.1, z.2]; decide
    | true => have z := a0.2 e; rw [l0.1, l0.2] at z; exact ⟨z.1, by omega, z.2.2⟩
  · cases e : sn 1 with
    | false => have z := a1.1 e; simp at z; rw [z.1, z.2]; decide
    | true => have z := a1.2 e; rw [l1.1, l1.2] at z; exact ⟨z.1, by omega, z.2.2⟩
  · cases e : sn 2 with
    | false => have z := a2.1 e; simp at z; rw [z.1, z.2]; decide
    | true => have z := a2.2 e; rw [l2.1, l2.2] at z; exact ⟨z.1, by omega, z.2.2⟩
  · cases e : sn 3 with
    | false => have z := a3.1 e; simp at z; rw [z.1, z.2]; decide
    | true => have z := a3.2 e; rw [l3.1, l3.2] at z; exact ⟨.inr z.1, z.2.1, z.2.2⟩
