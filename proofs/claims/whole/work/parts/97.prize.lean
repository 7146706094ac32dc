def XR (cp c j : Nat) : Bool := KNX c j || (decide (cp ≤ c) && decide (c < cp + 8))
def MR (c j : Nat) : Bool := KQ c j || c == 39 || c == 40 || c == 41 || c == 42 || c == 43 || c == 44 || (c == 0 && j == 52)
theorem XW_R {cp pr : Nat} {s t : St} (h : frs (XW cp pr) s t) : frs (XR cp) s t := frs_sub h (fun c j e => by
  unfold XW at e; unfold XR
  simp only [Bool.or_eq_true, Bool.and_eq_true, beq_iff_eq, decide_eq_true_eq] at e ⊢
  rcases e with e | e
  · exact .inl e
  · right; omega)
theorem MW_R {pr : Nat} {s t : St} (h : frs (MW pr) s t) : frs MR s t := frs_sub h (fun c j e => by
  unfold MW at e; unfold MR
  simp only [Bool.or_eq_true, Bool.and_eq_true, beq_iff_eq] at e ⊢
  rcases e with e | e
  · simp [e]
  · rcases e.1 with ((e | e) | e) | e <;> simp [e])
theorem KNX_R {cp : Nat} {s t : St} (h : frs KNX s t) : frs (XR cp) s t := frs_sub h (fun c j e => by unfold XR; rw [e]; rfl)
theorem KQ_R {s t : St} (h : frs KQ s t) : frs MR s t := frs_sub h (fun c j e => by unfold MR; rw [e]; rfl)
/-- an empty prize more -/
theorem addEmpty_eq {F cp : Nat} {x : St} {n : Nat} (hcp : cp = 80 ∨ cp = 88) (hn : n < 8) (h0 : x cp 0 = n) (hF : 20 ≤ F) : f_Prize_addEmpty F cp x = some (put (put (put (put (put (put x (cp + 4 + 0) n (-1)) (cp + 4 + 1) n (-1)) (cp + 4 + 2) n (-1)) (cp + 4 + 3) n (-1)) (cp + 2) n 0) cp 0 ((n : Int) + 1)) := by
  obtain ⟨f, rfl⟩ : ∃ f, F = f + 5 := ⟨F - 5, by omega⟩
  unfold f_Prize_addEmpty
  rw [if_neg (by rw [h0, show w32 8 = 8 by decide, wnat (by omega)]; omega)]
  have inn : inb (n : Int) 8 := inbN hn (by decide)
  have step : ∀ (k : Nat) (q : Nat) (y : St) (kk : St → Option St), k < 4 → y cp 0 = n → l_Prize_addEmpty_11 cp (f + 5) kk (q + 1) y (k : Nat) = l_Prize_addEmpty_11 cp (f + 5) kk q (put y (cp + 4 + k) n (-1)) ((k + 1 : Nat) : Int) := by
    intro k q y kk hk hy
    show b_Prize_addEmpty_11 cp (f + 5) (l_Prize_addEmpty_11 cp (f + 5) kk q) kk y (k : Nat) = _
    unfold b_Prize_addEmpty_11
    rw [if_neg (by rw [show w32 4 = 4 by decide, wnat (by omega)]; omega), gd_yes (inbN hk (by decide)), hy, gd_yes inn, ix_nat (show k < 2147483648 by omega), ix_nat (show n < 2147483648 by omega), show (k : Int) + 1 = ((k + 1 : Nat) : Int) by omega]
  have c0 : ∀ (y : St) (k : Nat) (v : Int), (put y (cp + 4 + k) n v) cp 0 = y cp 0 := fun y k v => put_c (by omega)
  refine (step 0 (f + 4) x _ (by omega) h0).trans ?_
  refine (step 1 (f + 3) _ _ (by omega) (by rw [c0]; exact h0)).trans ?_
  refine (step 2 (f + 2) _ _ (by omega) (by rw [c0, c0]; exact h0)).trans ?_
  refine (step 3 (f + 1) _ _ (by omega) (by rw [c0, c0, c0]; exact h0)).trans ?_
  show b_Prize_addEmpty_11 cp (f + 5) _ _ _ ((4 : Nat) : Int) = _
  unfold b_Prize_addEmpty_11
  rw [if_pos (by decide)]
  have hc4 : (put (put (put (put x (cp + 4 + 0) n (-1)) (cp + 4 + 1) n (-1)) (cp + 4 + 2) n (-1)) (cp + 4 + 3) n (-1)) cp 0 = n := by rw [c0, c0, c0, c0]; exact h0
  simp only [hc4, gd_yes inn, ix_nat (show n < 2147483648 by omega), nz_0]
  rw [put_c (show cp ≠ cp + 2 by omega), hc4]
/-- the end of a prize: the stop -/
theorem stop2 {F e : Nat} {tp : Nat → Int} {p : Nat} {x m : St} (h : SYN e tp p x m) (hF : 320 ≤ F) : ∃ x2 m2, f_Read_takeStop F x = some x2 ∧ frs KNX x x2 ∧ frs MR m m2 ∧ b_M_readPrize_332 F m = some m2 ∧ ((∃ p2, SYN e tp p2 x2 m2 ∧ m2 0 52 = m 0 52 + 1 ∧ ∀ c j, ¬ c = 0 → m2 c j = m c j) ∨ FLT e tp x2 m2) := by
  have h0 := h
  obtain ⟨a, r, h1, h2, h3, h4, h5, h6, h7⟩ := syn_hand h
  obtain ⟨g1, g2, g3, g4, g5, g6, g7⟩ := h
  have bad : ¬ x 41 5 = 3 → (0 ≤ x 41 5 ∧ x 41 5 ≤ 3) → ¬ m 0 81 = 3 → (0 ≤ m 0 81 ∧ m 0 81 ≤ 3) → ∃ x2 m2, f_Read_takeStop F x = some x2 ∧ frs KNX x x2 ∧ frs MR m m2 ∧ b_M_readPrize_332 F m = some m2 ∧ ((∃ p2, SYN e tp p2 x2 m2 ∧ m2 0 52 = m 0 52 + 1 ∧ ∀ c j, ¬ c = 0 → m2 c j = m c j) ∨ FLT e tp x2 m2) := by
    intro a1 a2 a3 a4
    obtain ⟨b1, b2⟩ := flt_mk h0 (k := 2) (by decide)
    refine ⟨_, _, ?_, frs_put (frs_put (frs_refl _ _) rfl) rfl, KQ_R (frs_put (frs_put (frs_refl _ _) rfl) rfl), ?_, .inr b2⟩
    · unfold f_Read_takeStop b_Read_takeStop_13
      rw [if_neg (by rw [wid (a := x 41 5) (by omega) (by omega), show w32 3 = 3 by decide]; exact a1), b1]
      simp only [Option.bind_some]
      rw [f_step (x := put (put x 41 1 2) 41 2 (x 41 6)) (by show (1 : Int) ≤ 2 ∧ (2 : Int) ≤ 5; decide)]
      rfl
    · unfold b_M_readPrize_332
      rw [if_neg (by rw [wid (a := m 0 81) (by omega) (by omega), show w32 3 = 3 by decide]; exact a3), wrong_eq g6 (by omega), if_neg (by omega)]
      rfl
  rcases h7 with ⟨q1, q2⟩ | ⟨q1, q2, _⟩ | ⟨q1, q2, _⟩ | ⟨q1, q2⟩
  · exact bad (by rw [q2]; decide) (by rw [q2]; decide) (by rw [q1]; decide) (by rw [q1]; decide)
  · exact bad (by rw [q2]; decide) (by rw [q2]; decide) (by rw [q1]; decide) (by rw [q1]; decide)
  · exact bad (by rw [q2]; decide) (by rw [q2]; decide) (by rw [q1]; decide) (by rw [q1]; decide)
  · obtain ⟨x2, m2, s1, s2, s3, s4, s5, s6⟩ := step2 (F := F) g1 g2 g5 g6 h4 h3 h6 (by omega)
    have e52 : m2 0 52 = m 0 52 := s4 0 52 rfl
    have f2 : frs MR m (put m2 0 52 (m2 0 52 + 1)) := frs_put (KQ_R (KN_Q s4)) rfl
    refine ⟨x2, put m2 0 52 (m2 0 52 + 1), ?_, s3, f2, ?_, ?_⟩
    · unfold f_Read_takeStop b_Read_takeStop_13
      rw [if_pos (by rw [q2]), s1]
      rfl
    · unfold b_M_readPrize_332
      rw [if_pos (by rw [q1]), s2]
      rfl
    · have k0 : ∀ j, ¬ j = 52 → (put m2 0 52 (m2 0 52 + 1)) 0 j = m2 0 j := fun j hj => put_j hj
      rcases s6 with s6 | s6
      · refine .inl ⟨r, ?_, by rw [put_eq, e52], fun c j hc => by rw [put_c hc]; exact s4 c j (by unfold KN; simp [hc])⟩
        obtain ⟨z1, z2, z3, z4, z5, z6, z7⟩ := s6
        unfold SYN TKM MTP at *
        simp only [k0 46 (by decide), k0 49 (by decide), k0 81 (by decide), k0 82 (by decide), k0 83 (by decide), k0 84 (by decide), k0 85 (by decide), put_c (show (32 : Nat) ≠ 0 by decide)]
        exact ⟨z1, z2, z3, z4, z5, z6, z7⟩
      · refine .inr ?_
        obtain ⟨z1, z2, z3, z4, z5, z6⟩ := s6
        unfold FLT MTP at *
        simp only [k0 46 (by decide), k0 49 (by decide), k0 50 (by decide), k0 81 (by decide), k0 82 (by decide), put_c (show (32 : Nat) ≠ 0 by decide)]
        exact ⟨z1, z2, z3, z4, z5, z6⟩
