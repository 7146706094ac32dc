theorem SYN_cong {e : Nat} {tp : Nat → Int} {p : Nat} {x m x2 m2 : St} (h : SYN e tp p x m) (a1 : ∀ j, x2 41 j = x 41 j) (a2 : ∀ j, x2 42 j = x 42 j) (b1 : ∀ j, m2 0 j = m 0 j) (b2 : ∀ j, m2 32 j = m 32 j) : SYN e tp p x2 m2 := by
  unfold SYN XTP MTP TKM TKX at *
  simp only [a1, a2, b1, b2]
  exact h
theorem FLT_cong {e : Nat} {tp : Nat → Int} {x m x2 m2 : St} (h : FLT e tp x m) (a1 : ∀ j, x2 41 j = x 41 j) (a2 : ∀ j, x2 42 j = x 42 j) (b1 : ∀ j, m2 0 j = m 0 j) (b2 : ∀ j, m2 32 j = m 32 j) : FLT e tp x2 m2 := by
  unfold FLT XTP MTP WFX at *
  simp only [a1, a2, b1, b2]
  exact h
theorem w4 {w : Nat} (h : w < 4) : w = 0 ∨ w = 1 ∨ w = 2 ∨ w = 3 := by omega
theorem M99 {F : Nat} {kc : St → Int → Int → Int → Option St} {k237 : St → Int → Option St} {m : St} {pr w : Nat} {seen : Int} (hw : w < 4) (hpr : pr < 8) (h : m 0 49 = 0) : b_M_readPrize_99 F kc k237 m pr seen w = (f_M_next F m).bind fun q2 => (f_M_numberOf F q2 (leastW w) (greatW w)).bind fun q1 => b_M_readPrize_218 F kc k237 (put q1.2 (39 + w) pr q1.1) pr (orI seen (shlI 1 w)) := by
  have ip : inb (pr : Int) 9 := inbN (by omega) (by decide)
  have ixp : ix (pr : Int) = pr := ix_nat (by omega)
  unfold b_M_readPrize_99 b_M_readPrize_128 b_M_readPrize_158
  rw [if_pos (by rw [h]; decide)]
  rcases w4 hw with e | e | e | e <;> subst e
  · simp only [show ¬ w32 ((0 : Nat) : Int) = w32 3 by decide, show w32 ((0 : Nat) : Int) = 0 by decide, if_false, if_true, gd_yes ip, ixp]
    rfl
  · simp only [show ¬ w32 ((1 : Nat) : Int) = w32 3 by decide, show ¬ w32 ((1 : Nat) : Int) = 0 by decide, show w32 ((1 : Nat) : Int) = w32 1 by decide, if_false, if_true, gd_yes ip, ixp]
    rfl
  · simp only [show ¬ w32 ((2 : Nat) : Int) = w32 3 by decide, show ¬ w32 ((2 : Nat) : Int) = 0 by decide, show ¬ w32 ((2 : Nat) : Int) = w32 1 by decide, show w32 ((2 : Nat) : Int) = w32 2 by decide, if_false, if_true, gd_yes ip, ixp]
    rfl
  · simp only [show ¬ w32 ((3 : Nat) : Int) = 0 by decide, show ¬ w32 ((3 : Nat) : Int) = w32 1 by decide, show ¬ w32 ((3 : Nat) : Int) = w32 2 by decide, if_false, if_true, gd_yes ip, ixp]
    rfl
/-- the reference, where the fault is known: nothing more is read -/
theorem fl237 {F e : Nat} {tp : Nat → Int} {x m : St} {pr : Nat} (h : FLT e tp x m) : ∃ m2, b_M_readPrize_237 F m pr = some m2 ∧ FLT e tp x m2 ∧ frs KQ m m2 := by
  obtain ⟨h1, h2, h3, h4, h5, h6⟩ := id h
  unfold b_M_readPrize_237
  rcases h6 with ⟨q1, q2⟩ | ⟨q1, q2, q3, q4⟩
  · rw [if_neg (by rw [q1, wid (a := x 41 1) (by omega) (by omega)]; omega)]
    exact ⟨m, rfl, h, frs_refl _ _⟩
  · rw [if_pos (by rw [q1]; decide), sp_best]
    simp only [Option.bind_some]
    rw [wordM_no (s := m) (by rw [q2]; decide) (by rw [q2]; decide)]
    simp only [Option.bind_some]
    rw [if_pos (by decide), wrong_eq q1 (by rw [q2]; decide), if_pos q2]
    refine ⟨_, rfl, ⟨h1, MTP_Q h2 (frs_put (frs_put (frs_refl _ _) rfl) rfl), h3, h4, h5, .inl ⟨?_, ?_⟩⟩, frs_put (frs_put (frs_refl _ _) rfl) rfl⟩
    · show (1 : Int) = x 41 1; rw [q3]
    · show m 0 82 = x 41 2; rw [q4]
/-- numberOf, where the fault is known or stands in hand -/
theorem flNum {F e : Nat} {tp : Nat → Int} {x m : St} {lo hi : Int} (h : FLT e tp x m) (hp : m 0 49 = 0) : ∃ v m2, f_M_numberOf F m lo hi = some (v, m2) ∧ FLT e tp x m2 ∧ frs KQ m m2 ∧ m2 0 49 = 1 := by
  obtain ⟨h1, h2, h3, h4, h5, h6⟩ := id h
  rcases h6 with ⟨q1, q2⟩ | ⟨q1, q2, q3, q4⟩
  · omega
  · unfold f_M_numberOf
    rw [if_neg (by rw [q2]; decide), wrong_eq q1 (by rw [q2]; decide), if_pos q2]
    refine ⟨_, _, rfl, ⟨h1, MTP_Q h2 (frs_put (frs_put (frs_refl _ _) rfl) rfl), h3, h4, h5, .inl ⟨?_, ?_⟩⟩, frs_put (frs_put (frs_refl _ _) rfl) rfl, rfl⟩
    · show (1 : Int) = x 41 1; rw [q3]
    · show m 0 82 = x 41 2; rw [q4]
def XW (cp pr c j : Nat) : Bool := KNX c j || ((c == cp + 4 || c == cp + 5 || c == cp + 6 || c == cp + 7) && j == pr)
def MW (pr c j : Nat) : Bool := KQ c j || ((c == 39 || c == 40 || c == 41 || c == 42) && j == pr)
theorem XW_put {cp pr w : Nat} {s t : St} {v : Int} (h : frs (XW cp pr) s t) (hw : w < 4) : frs (XW cp pr) s (put t (cp + 4 + w) pr v) := by
  refine frs_put h ?_
  unfold XW
  rcases w4 hw with e | e | e | e <;> subst e <;> simp
theorem MW_put {pr w : Nat} {s t : St} {v : Int} (h : frs (MW pr) s t) (hw : w < 4) : frs (MW pr) s (put t (39 + w) pr v) := by
  refine frs_put h ?_
  unfold MW
  rcases w4 hw with e | e | e | e <;> subst e <;> simp
theorem KNX_W {cp pr : Nat} {s t : St} (h : frs KNX s t) : frs (XW cp pr) s t := frs_sub h (fun c j e => by unfold XW; rw [e]; rfl)
theorem KQ_W {pr : Nat} {s t : St} (h : frs KQ s t) : frs (MW pr) s t := frs_sub h (fun c j e => by unfold MW; rw [e]; rfl)
/-- the wishes told so far (sn), as both keep them -/
def WR (cp pr : Nat) (sn : Nat → Bool) (x m : St) : Prop := ∀ w, w < 4 → (sn w = false → x (cp + 4 + w) pr = -1 ∧ m (39 + w) pr = (if w = 3 then 1 else -1)) ∧ (sn w = true → x (cp + 4 + w) pr = m (39 + w) pr ∧ leastW w ≤ m (39 + w) pr ∧ m (39 + w) pr ≤ greatW w)
theorem lw_rng {w : Nat} (hw : w < 4) : 0 ≤ leastW w ∧ leastW w ≤ greatW w ∧ greatW w ≤ 24 := by
  rcases w4 hw with e | e | e | e <;> subst e <;> decide
