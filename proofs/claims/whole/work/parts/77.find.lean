theorem grows_71 {F nb nj L : Nat} {mo : Nat → Nat} {may : Pl} {fx : Nat → Nat → Int} {b0 : Nat} {s0 : St} (hD : PD nb nj L mo may fx s0) (hN : N01 nb nj s0) (hb0 : b0 < nb) (hload : ∀ j, j < nj → s0 16 j = colc nb (pM s0) j ∧ colc nb (pM s0) j ≤ mo j) {s : St} (hG : GI nb nj mo (frP may fx) (pM s0) b0 s0 1 0 12 0 s) (hF : 60 ≤ F) : T (l_M_grows_71 F (fun s11 => some (0, s11)) F s b0 1 0) (GRP nb nj mo (frP may fx) b0 s0) := by
  obtain ⟨d1, d2, d3, d4, d5, d6, d7, d8, d9, d10, d11⟩ := id hD
  refine loopW (l := fun n (a : St × Nat × Nat) => l_M_grows_71 F (fun s11 => some (0, s11)) n a.1 b0 (a.2.1 : Nat) (a.2.2 : Nat)) (I := fun a => GI nb nj mo (frP may fx) (pM s0) b0 s0 a.2.1 a.2.2 12 0 a.1 ∧ 1 ≤ a.2.1) (mu := fun a => nb - a.2.2) (G := fun r => T r (GRP nb nj mo (frP may fx) b0 s0)) ?_ nb F (s, 1, 0) (by show nb - 0 ≤ nb; omega) (by omega) ⟨hG, Nat.le_refl 1⟩
  intro n a hI next
  obtain ⟨s, sz, k⟩ := a
  obtain ⟨hG, h1⟩ := hI
  have hG0 : GI nb nj mo (frP may fx) (pM s0) b0 s0 sz k 12 0 s := hG
  have h1 : 1 ≤ sz := h1
  obtain ⟨g1, g2, g3, g4, g5, g6, g7, g8⟩ := hG0
  have hle := BF_le g2
  show T (b_M_grows_71 F (l_M_grows_71 F (fun s11 => some (0, s11)) n) (fun s11 => some (0, s11)) s b0 (sz : Nat) (k : Nat)) _
  unfold b_M_grows_71
  by_cases c : sz ≤ k
  · refine T_yes (by rw [wnat (by omega), wnat (by omega)]; omega) (T_some ?_)
    have s10 : ∀ i, s 10 i = s0 10 i := fun i => g1 10 i rfl
    refine ⟨KG_KF g1, fun b j x1 x2 => by show s 10 (12 * b + j) = 0 ∨ s 10 (12 * b + j) = 1; rw [s10]; exact hN b j x1 x2, .inl ⟨rfl, pM_cong s10, fun i => g1 15 i rfl, fun i => g1 16 i rfl, LBs nb s, LJs nj s, ⟨fun b j hb hj x1 x2 x3 => ?_, fun b j hb hj x1 x2 x3 => ?_, fun j hj x1 => (g6 j x1).1⟩, ?_⟩⟩
    · obtain ⟨i, y1, y2⟩ := g2.2.1 b x1
      rw [← y2] at x2 x3
      exact g7 i (by omega) j hj x2 x3
    · exact (g6 j x1).2 b hb (fun e => by omega) x2 x3
    · have z := (g2.1 0 (by omega)).2
      rcases g2.2.2.2.2 0 (by omega) with ⟨_, e⟩ | ⟨j, _, _, _, _, i2, e, _⟩
      · have e : qs s 0 = b0 := e
        rw [← e]; exact z
      · omega
  · refine T_no (by rw [wnat (by omega), wnat (by omega)]; omega) (T_gd (inbN (show k < 24 by omega) (by decide)) ?_)
    rw [ix_nat (by omega), g3 k (by omega)]
    refine grows_87 hD hN hb0 hload (fun s2 sz2 hG2 => ?_) ⟨g1, g2, g3, g4, g5, g6, g7, g8⟩ (by omega) hF
    rw [show (k : Int) + 1 = ((k + 1 : Nat) : Int) by omega]
    exact next (s2, sz2, k + 1) ⟨hG2, by have := hG2.2.2.2.2.2.2.2; show 1 ≤ sz2; omega⟩ (by show nb - (k + 1) < nb - k; omega)
theorem grows_eq {F nb nj L : Nat} {mo : Nat → Nat} {may : Pl} {fx : Nat → Nat → Int} {b0 : Nat} {s0 : St} (hD : PD nb nj L mo may fx s0) (hN : N01 nb nj s0) (hb0 : b0 < nb) (hload : ∀ j, j < nj → s0 16 j = colc nb (pM s0) j ∧ colc nb (pM s0) j ≤ mo j) (hF : 60 ≤ F) : T (f_M_grows F s0 b0) (GRP nb nj mo (frP may fx) b0 s0) := by
  obtain ⟨d1, d2, d3, d4, d5, d6, d7, d8, d9, d10, d11⟩ := id hD
  unfold f_M_grows
  refine loopG (l := fun n (s : St) x => l_M_grows_2 F _ n s b0 (x : Nat)) (N := nj) (I := fun k s => frs KG s0 s ∧ ∀ j, j < k → s 12 j = 0) (G := fun r => T r (GRP nb nj mo (frP may fx) b0 s0)) ?_ ?_ nj 0 F s0 (by omega) (by omega) ⟨frs_refl _ _, fun j h => absurd h (Nat.not_lt_zero j)⟩
  · intro n k s hk hI next
    show T (b_M_grows_2 F (l_M_grows_2 F _ n) _ s b0 k) _
    unfold b_M_grows_2
    refine T_no (by rw [(hI.1 0 5 rfl).trans d6, wnat (by omega), wnat (by omega)]; omega) (T_gd (inbN (show k < 12 by omega) (by decide)) ?_)
    show T (l_M_grows_2 F _ n (put s 12 (ix (k : Int)) (nz 0)) b0 ((k : Int) + 1)) _
    rw [ix_nat (by omega), nz_0]
    refine next _ ⟨frs_put hI.1 rfl, fun i hi => ?_⟩
    rw [put_at]
    by_cases e : i = k
    · rw [if_pos e]
    · rw [if_neg e]; exact hI.2 i (by omega)
  · intro n s hI
    obtain ⟨f1, z1⟩ := hI
    show T (b_M_grows_2 F (l_M_grows_2 F _ n) _ s b0 nj) _
    unfold b_M_grows_2
    refine T_yes (by rw [(f1 0 5 rfl).trans d6, wnat (by omega)]; omega) ?_
    refine loopG (l := fun n (s : St) x => l_M_grows_25 F _ n s b0 (x : Nat)) (N := nb) (I := fun k s => frs KG s0 s ∧ (∀ j, j < nj → s 12 j = 0) ∧ ∀ b, b < k → s 13 b = 0) (G := fun r => T r (GRP nb nj mo (frP may fx) b0 s0)) ?_ ?_ nb 0 F s (by omega) (by omega) ⟨f1, z1, fun j h => absurd h (Nat.not_lt_zero j)⟩
    · intro n k s hk hI next
      show T (b_M_grows_25 F (l_M_grows_25 F _ n) _ s b0 k) _
      unfold b_M_grows_25
      refine T_no (by rw [(hI.1 0 4 rfl).trans d5, wnat (by omega), wnat (by omega)]; omega) (T_gd (inbN (show k < 24 by omega) (by decide)) ?_)
      show T (l_M_grows_25 F _ n (put s 13 (ix (k : Int)) (nz 0)) b0 ((k : Int) + 1)) _
      rw [ix_nat (by omega), nz_0]
      refine next _ ⟨frs_put hI.1 rfl, hI.2.1, fun i hi => ?_⟩
      rw [put_at]
      by_cases e : i = k
      · rw [if_pos e]
      · rw [if_neg e]; exact hI.2.2 i (by omega)
    · intro n s hI
      obtain ⟨f2, z2, z3⟩ := hI
      show T (b_M_grows_25 F (l_M_grows_25 F _ n) _ s b0 nb) _
      unfold b_M_grows_25
      refine T_yes (by rw [(f2 0 4 rfl).trans d5, wnat (by omega)]; omega) ?_
      refine T_gd (by decide) (T_gd (inbN (show b0 < 24 by omega) (by decide)) (T_gd (inbN (show b0 < 24 by omega) (by decide)) ?_))
      show T (l_M_grows_71 F (fun s11 => some (0, s11)) F (put (put (put s 18 (ix 0) b0) 13 (ix (b0 : Int)) (nz 1)) 19 (ix (b0 : Int)) (-1)) b0 1 0) _
      rw [ix_nat (show b0 < 2147483648 by omega), nz_1, show ix 0 = 0 from rfl]
      have e13 : ∀ b, (put (put (put s 18 0 b0) 13 b0 1) 19 b0 (-1)) 13 b = if b = b0 then 1 else s 13 b := by
        intro b
        show (put (put s 18 0 b0) 13 b0 1) 13 b = _
        rw [put_at]
        rfl
      have hLB : ∀ b, LBs nb (put (put (put s 18 0 b0) 13 b0 1) 19 b0 (-1)) b = decide (b = b0) := by
        intro b
        unfold LBs
        rw [e13]
        by_cases e : b = b0
        · rw [if_pos e, e]; simp [hb0]
        · rw [if_neg e]
          by_cases h : b < nb
          · simp [z3 b h, e]
          · simp [h, e]
      have hLJ : ∀ j, LJs nj (put (put (put s 18 0 b0) 13 b0 1) 19 b0 (-1)) j = false := by
        intro j
        unfold LJs
        by_cases h : j < nj
        · simp [show (put (put (put s 18 0 b0) 13 b0 1) 19 b0 (-1)) 12 j = 0 from z2 j h]
        · simp [h]
      have hq0 : qs (put (put (put s 18 0 b0) 13 b0 1) 19 b0 (-1)) 0 = b0 := by
        unfold qs
        show ((put s 18 0 b0) 18 0).toNat = b0
        rw [put_eq, Int.toNat_natCast]
      refine grows_71 hD hN hb0 hload ⟨frs_put (frs_put (frs_put f2 rfl) rfl) rfl, ⟨fun i hi => ?_, fun b hb => ?_, fun i i2 hi hi2 e => by omega, fun j hj => ?_, fun i hi => ?_⟩, fun i hi => ?_, fun b hb => ?_, fun j hj => .inl (z2 j hj), fun j hj => ?_, fun i hi => absurd hi (Nat.not_lt_zero i), by omega⟩ hF
      · have e : i = 0 := by omega
        rw [e, hq0, hLB]
        exact ⟨hb0, by simp⟩
      · rw [hLB] at hb
        exact ⟨0, by omega, by rw [hq0]; exact (of_decide_eq_true hb).symm⟩
      · rw [hLJ] at hj; cases hj
      · have e : i = 0 := by omega
        rw [e, hq0]
        exact .inl ⟨put_eq _ _ _ _, rfl⟩
      · have e : i = 0 := by omega
        rw [e, hq0]
        show (put s 18 0 b0) 18 0 = _
        rw [put_eq]
      · rw [e13]
        by_cases e : b = b0
        · rw [if_pos e]; exact .inr rfl
        · rw [if_neg e]; exact .inl (z3 b hb)
      · rw [hLJ] at hj; cases hj
