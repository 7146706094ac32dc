/-- the n-th prize, as both keep it -/
def ROW (cp n : Nat) (x m : St) : Prop := (x (cp + 4) n = m 39 n ∧ -1 ≤ m 39 n ∧ m 39 n ≤ 7) ∧ (x (cp + 5) n = m 40 n ∧ -1 ≤ m 40 n ∧ m 40 n ≤ 3) ∧ (x (cp + 6) n = m 41 n ∧ -1 ≤ m 41 n ∧ m 41 n ≤ 15) ∧ (((x (cp + 7) n = -1 ∧ m 42 n = 1) ∨ x (cp + 7) n = m 42 n) ∧ 1 ≤ m 42 n ∧ m 42 n ≤ 12) ∧ (x (cp + 1) n = m 43 n ∧ 1 ≤ m 43 n ∧ m 43 n ≤ 24) ∧ (x (cp + 2) n = m 44 n ∧ 0 ≤ m 44 n ∧ m 44 n ≤ 1)
/-- once there is a fault the class goes through the rest of a prize and changes its rows alone -/
theorem fl_rest {F e : Nat} {tp : Nat → Int} {cp n : Nat} {x : St} (hcp : cp = 80 ∨ cp = 88) (hn : n < 8) (hX : XTP e tp x) (hW : WFX x) (h : 1 ≤ x 41 1 ∧ x 41 1 ≤ 5) (hF : 320 ≤ F) : ∃ x2, ((f_Read_takeNumber F x 1 24).bind fun q10 => gd (inb (n : Int) 8) (let s12 := put q10.2 (cp + 1) (ix (n : Int)) q10.1; if w32 (s12 41 1) = 0 then (f_Read_isWord F 1006 s12).bind fun q14 => if w32 q14.1 = 0 then b_Read_readPrize_95 cp F q14.2 else gd (inb (n : Int) 8) (let s17 := put q14.2 (cp + 2) (ix (n : Int)) (nz 1); (f_Read_step F s17).bind fun q18 => b_Read_readPrize_95 cp F q18) else b_Read_readPrize_95 cp F s12)) = some x2 ∧ frs (XR cp) x x2 ∧ (∀ j, x2 41 j = x 41 j) ∧ ∀ j, x2 42 j = x 42 j := by
  obtain ⟨v, hv⟩ := f_takeNumber (F := F) (x1 := 1) (x2 := 24) hX hW h (by omega)
  have inn : inb (n : Int) 8 := inbN hn (by decide)
  rw [hv]
  simp only [Option.bind_some, gd_yes inn, ix_nat (show n < 2147483648 by omega)]
  have p41 : ∀ j, (put x (cp + 1) n v) 41 j = x 41 j := fun j => put_c (by omega)
  have p42 : ∀ j, (put x (cp + 1) n v) 42 j = x 42 j := fun j => put_c (by omega)
  rw [if_neg (by rw [p41, wid (a := x 41 1) (by omega) (by omega)]; omega)]
  refine ⟨put x (cp + 1) n v, ?_, frs_put (frs_refl _ _) ?_, p41, p42⟩
  · unfold b_Read_readPrize_95
    rw [f_takeStop (by rw [p41]; exact h)]
    rfl
  · unfold XR
    simp
