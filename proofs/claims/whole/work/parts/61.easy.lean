def b01 (c : Prop) [Decidable c] : Int := if c then 1 else 0
theorem w_b01 {c : Prop} [Decidable c] : w32 (b01 c) = b01 c := by
  unfold b01
  split <;> decide
theorem b01_0 {c : Prop} [Decidable c] : w32 (b01 c) = 0 ↔ ¬ c := by
  rw [w_b01]
  unfold b01
  split
  · constructor
    · intro h; cases h
    · intro h; contradiction
  · constructor
    · intro _; assumption
    · intro _; rfl
theorem b01_1 {c : Prop} [Decidable c] : w32 (b01 c) = 0 ∨ w32 (b01 c) = 1 := by
  rw [w_b01]
  unfold b01
  split
  · exact .inr rfl
  · exact .inl rfl
theorem within_eq {sg : St} {x lo hi : Int} (h1 : i32 x) (h2 : i32 lo) (h3 : i32 hi) : f_H_within sg x lo hi = some (b01 (lo ≤ x ∧ x ≤ hi), sg) := by
  unfold f_H_within b01
  unfold i32 at *
  have e1 : w32 x = x := wid (by omega) (by omega)
  have e2 : w32 lo = lo := wid (by omega) (by omega)
  have e3 : w32 hi = hi := wid (by omega) (by omega)
  rw [e1, e2, e3]
  by_cases c1 : x < lo
  · rw [if_pos c1, if_neg (by omega)]
  · rw [if_neg c1]
    by_cases c2 : hi < x
    · rw [if_pos c2, if_neg (by omega)]
    · rw [if_neg c2, if_pos (by omega)]
theorem isDayH_eq {sg : St} {x : Int} (h1 : i32 x) : f_H_isDay sg x = some (b01 (0 ≤ x ∧ x ≤ 999), sg) := by
  unfold f_H_isDay
  rw [within_eq h1 (by unfold i32; decide) (by unfold i32; decide)]
  show gd _ _ = _
  rw [gd_yes b01_1]
theorem isDayM_eq {sg : St} {x : Int} (h1 : i32 x) : f_M_isDay sg x = some (b01 (0 ≤ x ∧ x ≤ 999), sg) := by
  unfold f_M_isDay b01
  unfold i32 at *
  have e1 : w32 x = x := wid (by omega) (by omega)
  have e2 : w32 999 = 999 := by decide
  rw [e1, e2]
  by_cases c1 : x < 0
  · rw [if_pos c1, if_neg (by omega)]
  · rw [if_neg c1]
    by_cases c2 : 999 < x
    · rw [if_pos c2, if_neg (by omega)]
    · rw [if_neg c2, if_pos (by omega)]
theorem has_gen {sg : St} {x n : Int} (h1 : i32 x) (h2 : i32 n) : (if w32 x < 0 then some ((0 : Int), sg) else if w32 n ≤ w32 x then some (0, sg) else some (1, sg)) = some (b01 (0 ≤ x ∧ x < n), sg) := by
  unfold b01
  unfold i32 at *
  have e1 : w32 x = x := wid (by omega) (by omega)
  have e2 : w32 n = n := wid (by omega) (by omega)
  rw [e1, e2]
  by_cases c1 : x < 0
  · rw [if_pos c1, if_neg (by omega)]
  · rw [if_neg c1]
    by_cases c2 : n ≤ x
    · rw [if_pos c2, if_neg (by omega)]
    · rw [if_neg c2, if_pos (by omega)]
theorem hasB_eq {sg : St} {x : Int} (h1 : i32 x) (h2 : i32 (sg 1 0)) : f_Boards_has sg x = some (b01 (0 ≤ x ∧ x < sg 1 0), sg) := has_gen h1 h2
theorem hasJ_eq {sg : St} {x : Int} (h1 : i32 x) (h2 : i32 (sg 7 0)) : f_Judges_has sg x = some (b01 (0 ≤ x ∧ x < sg 7 0), sg) := has_gen h1 h2
theorem hasK_eq {sg : St} {x : Int} (h1 : i32 x) (h2 : i32 (sg 19 0)) : f_Marks_has sg x = some (b01 (0 ≤ x ∧ x < sg 19 0), sg) := has_gen h1 h2
theorem isB_eq {sg : St} {x : Int} (h1 : i32 x) (h2 : i32 (sg 0 4)) : f_M_isBoard sg x = some (b01 (0 ≤ x ∧ x < sg 0 4), sg) := has_gen h1 h2
theorem isJ_eq {sg : St} {x : Int} (h1 : i32 x) (h2 : i32 (sg 0 5)) : f_M_isJudge sg x = some (b01 (0 ≤ x ∧ x < sg 0 5), sg) := has_gen h1 h2
theorem gq1 : w32 1 = 0 ∨ w32 1 = 1 := .inr rfl
theorem gq0 : w32 0 = 0 ∨ w32 0 = 1 := .inl rfl
theorem mk2 {α : Type} {x y : Option α} {P : α → α → Prop} (h : T x (fun q1 => T y (fun q2 => P q1 q2))) : ∃ q1 q2, x = some q1 ∧ y = some q2 ∧ P q1 q2 := by
  obtain ⟨q1, h1, q2, h2, h3⟩ := h
  exact ⟨q1, q2, h1, h2, h3⟩
theorem s_status {F : Nat} : st_status F (INV F) := by
  intro sx sm h
  obtain ⟨hB, hJ, hL, hS, hM, hF, hT, hR, hH, hP⟩ := h
  refine mk2 (T_some (T_some ⟨?_, hB, hJ, hL, hS, hM, hF, hT, hR, hH, hP⟩))
  show w32 (sx 0 13) = w32 (sm 0 0)
  rw [show sx 0 13 = sm 0 0 from hS]
theorem s_upper {F : Nat} : st_upper F (INV F) := by
  intro sx sm h
  obtain ⟨hB, hJ, hL, hS, hM, hF, hT, hR, hH, hP⟩ := h
  exact mk2 (T_some (T_some ⟨hF.1, hB, hJ, hL, hS, hM, hF, hT, hR, hH, hP⟩))
theorem s_lower {F : Nat} : st_lower F (INV F) := by
  intro sx sm h
  obtain ⟨hB, hJ, hL, hS, hM, hF, hT, hR, hH, hP⟩ := h
  exact mk2 (T_some (T_some ⟨hF.2, hB, hJ, hL, hS, hM, hF, hT, hR, hH, hP⟩))
theorem s_fault {F : Nat} : st_fault F (INV F) := by
  intro sx sm h a1 r1
  obtain ⟨hB, hJ, hL, hS, hM, hF, hT, hR, hH, hP⟩ := h
  by_cases c1 : w32 a1 = 0
  · refine mk2 (T_yes c1 (T_some (T_yes c1 (T_some ⟨?_, hB, hJ, hL, hS, hM, hF, hT, hR, hH, hP⟩))))
    exact congrArg w32 hT.2.1
  · by_cases c2 : w32 a1 = w32 1
    · refine mk2 (T_no c1 (T_yes c2 (T_some (T_no c1 (T_yes c2 (T_some ⟨?_, hB, hJ, hL, hS, hM, hF, hT, hR, hH, hP⟩))))))
      exact congrArg w32 hT.2.2.1
    · exact mk2 (T_no c1 (T_no c2 (T_some (T_no c1 (T_no c2 (T_some ⟨rfl, hB, hJ, hL, hS, hM, hF, hT, hR, hH, hP⟩))))))
theorem s_clear {F : Nat} : st_clear F (INV F) := by
  intro sx sm h
  obtain ⟨hB, hJ, hL, hS, hM, hF, hT, hR, hH, hP⟩ := h
  refine mk2 (T_bind (T_some (T_bind (T_some (T_gd (by first | exact gq1 | exact gq0) (T_some (T_some ⟨rfl, hB, hJ, hL, rfl, hM, hF, hT, hR, ?_, hP⟩)))))))
  refine ⟨⟨rfl, show (0 : Int) ≤ 0 by decide, show (0 : Int) ≤ 4 by decide⟩, ?_, .inl rfl⟩
  intro h hh
  have : (h : Int) < 0 := hh
  omega
theorem s_looks {F : Nat} : st_looks F (INV F) := by
  intro sx sm h a1 r1
  obtain ⟨hB, hJ, hL, hS, hM, hF, hT, hR, hH, hP⟩ := h
  have e1 : w32 a1 = a1 := wid r1.1 r1.2
  have k1 : w32 1 = 1 := by decide
  have k4 : w32 4 = 4 := by decide
  refine mk2 (T_bind (T_eq (within_eq r1 (by unfold i32; decide) (by unfold i32; decide)) ?_))
  by_cases c : 1 ≤ a1 ∧ a1 ≤ 4
  · refine T_no (fun q => b01_0.mp q c) (T_bind (T_some (T_gd (by first | exact gq1 | exact gq0) (T_some ?_))))
    refine T_no (by omega) (T_yes (by omega) (T_some ⟨rfl, hB, hJ, ⟨rfl, c.1, c.2⟩, rfl, hM, hF, hT, hR, hH, hP⟩))
  · refine T_yes (b01_0.mpr c) (T_bind (T_some (T_gd (by first | exact gq1 | exact gq0) (T_some ?_))))
    have hb : T (b_M_looks_20 0 (put (put sm 0 1 0) 0 0 0)) (fun q2 => w32 0 = w32 q2.1 ∧ INV F (put sx 0 13 2) q2.2) := T_bind (T_some (T_gd (by first | exact gq1 | exact gq0) (T_some ⟨rfl, hB, hJ, hL, rfl, hM, hF, hT, hR, hH, hP⟩)))
    exact T_if (fun _ => hb) (fun _ => T_no (by omega) hb)
theorem s_board {F : Nat} : st_board F (INV F) := by
  intro sx sm h a1 a2 a3 a4 a5 r1 r2 r3 r4 r5
  obtain ⟨hB, hJ, hL, hS, hM, hF, hT, hR, hH, hP⟩ := h
  have e1 : w32 a1 = a1 := wid r1.1 r1.2
  have e2 : w32 a2 = a2 := wid r2.1 r2.2
  have e3 : w32 a3 = a3 := wid r3.1 r3.2
  have e4 : w32 a4 = a4 := wid r4.1 r4.2
  have k7 : w32 7 = 7 := by decide
  have k3 : w32 3 = 3 := by decide
  have k15 : w32 15 = 15 := by decide
  have k99 : w32 99 = 99 := by decide
  have k24 : w32 24 = 24 := by decide
  have hB0 := hB
  obtain ⟨⟨b1, b2, b3⟩, b4⟩ := hB
  have eb : w32 (sm 0 4) = sm 0 4 := wid (by omega) (by omega)
  have ebx : w32 (sx 1 0) = sm 0 4 := by rw [b1]; exact eb
  by_cases c : (0 ≤ a1 ∧ a1 ≤ 7) ∧ (0 ≤ a2 ∧ a2 ≤ 3) ∧ (0 ≤ a3 ∧ a3 ≤ 15) ∧ (0 ≤ a4 ∧ a4 ≤ 99)
  · refine mk2 (T_bind (T_eq (within_eq r1 (by unfold i32; decide) (by unfold i32; decide)) (T_no (fun q => b01_0.mp q c.1) ?_)))
    refine T_bind (T_eq (within_eq r2 (by unfold i32; decide) (by unfold i32; decide)) (T_no (fun q => b01_0.mp q c.2.1) ?_))
    refine T_bind (T_eq (within_eq r3 (by unfold i32; decide) (by unfold i32; decide)) (T_no (fun q => b01_0.mp q c.2.2.1) ?_))
    refine T_bind (T_eq (within_eq r4 (by unfold i32; decide) (by unfold i32; decide)) (T_no (fun q => b01_0.mp q c.2.2.2) ?_))
    by_cases c2 : sm 0 4 < 24
    · refine T_yes (show w32 (sx 1 0) < w32 24 by omega) ?_
      have ib : inb (sx 1 0) 24 := by unfold inb; rw [ebx]; omega
      have ibm : inb (sm 0 4) 24 := by unfold inb; rw [eb]; omega
      obtain ⟨n, hn⟩ : ∃ n : Nat, sm 0 4 = n := ⟨(sm 0 4).toNat, by omega⟩
      have ixm : ix (sm 0 4) = n := by rw [hn]; exact ix_nat (by omega)
      have ixx : ix (sx 1 0) = n := by rw [b1]; exact ixm
      have key : ∀ w : Int, w = nz a5 → T (b_Boards_add_55 0 (put (put (put (put sx 2 n a1) 3 n a2) 4 n a3) 5 n a4) (sx 1 0) w (sx 1 0)) (fun q => T ((f_H_answer q.2 q.1).bind fun q12 => some (q12.1, q12.2)) (fun q1 => T (f_M_board sm a1 a2 a3 a4 a5) (fun q2 => w32 q1.1 = w32 q2.1 ∧ INV F q1.2 q2.2))) := by
        intro w hw
        refine T_gd ib (T_some (T_bind (T_some (T_some ?_))))
        refine T_no (show ¬ w32 a1 < 0 by omega) (T_no (show ¬ w32 7 < w32 a1 by omega) (T_no (show ¬ w32 a2 < 0 by omega) (T_no (show ¬ w32 3 < w32 a2 by omega) (T_no (show ¬ w32 a3 < 0 by omega) (T_no (show ¬ w32 15 < w32 a3 by omega) (T_no (show ¬ w32 a4 < 0 by omega) (T_yes (show w32 a4 ≤ w32 99 by omega) (T_no (show ¬ w32 (sm 0 4) = w32 24 by omega) ?_))))))))
        refine T_gd ibm (T_gd ibm (T_gd ibm (T_gd ibm (T_gd ibm (T_some ⟨?_, ?_, hJ, hL, rfl, ?_, hF, hT, hR, ?_, hP⟩)))))
        · show w32 (sx 1 0) = w32 (sm 0 4 + 1 - 1)
          rw [b1, Int.add_sub_cancel]
        · refine ⟨⟨?_, ?_, ?_⟩, ?_⟩
          · show sx 1 0 + 1 = sm 0 4 + 1
            rw [b1]
          · show 0 ≤ sm 0 4 + 1
            omega
          · show sm 0 4 + 1 ≤ 24
            omega
          · intro b hb
            have hb2 : (b : Int) < sm 0 4 + 1 := hb
            show ((put sx 2 n a1) 2 b = (put sm 1 (ix (sm 0 4)) a1) 1 b ∧ 0 ≤ (put sm 1 (ix (sm 0 4)) a1) 1 b ∧ (put sm 1 (ix (sm 0 4)) a1) 1 b ≤ 7) ∧ ((put sx 3 n a2) 3 b = (put sm 2 (ix (sm 0 4)) a2) 2 b ∧ 0 ≤ (put sm 2 (ix (sm 0 4)) a2) 2 b ∧ (put sm 2 (ix (sm 0 4)) a2) 2 b ≤ 3) ∧ ((put sx 4 n a3) 4 b = (put sm 3 (ix (sm 0 4)) a3) 3 b ∧ 0 ≤ (put sm 3 (ix (sm 0 4)) a3) 3 b ∧ (put sm 3 (ix (sm 0 4)) a3) 3 b ≤ 15) ∧ ((put sx 5 n a4) 5 b = (put sm 4 (ix (sm 0 4)) a4) 4 b ∧ 0 ≤ (put sm 4 (ix (sm 0 4)) a4) 4 b ∧ (put sm 4 (ix (sm 0 4)) a4) 4 b ≤ 99) ∧ ((put sx 6 (ix (sx 1 0)) w) 6 b = (put sm 8 (ix (sm 0 4)) (nz a5)) 8 b ∧ 0 ≤ (put sm 8 (ix (sm 0 4)) (nz a5)) 8 b ∧ (put sm 8 (ix (sm 0 4)) (nz a5)) 8 b ≤ 1)
            simp only [put_at, ixm, ixx]
            by_cases hbn : b = n
            · simp only [if_pos hbn]
              refine ⟨⟨trivial, c.1.1, c.1.2⟩, ⟨trivial, c.2.1.1, c.2.1.2⟩, ⟨trivial, c.2.2.1.1, c.2.2.1.2⟩, ⟨trivial, c.2.2.2.1, c.2.2.2.2⟩, hw, ?_⟩
              rcases r5 with r5 | r5 <;> subst r5 <;> decide
            · simp only [if_neg hbn]
              exact b4 b (by omega)
        · obtain ⟨m1, m2⟩ := hM
          refine ⟨m1, fun k hk => ?_⟩
          obtain ⟨z1, z2, z3⟩ := m2 k hk
          refine ⟨z1, ⟨z2.1, z2.2.1, ?_⟩, z3⟩
          show sm 21 k < sm 0 4 + 1
          omega
        · obtain ⟨h1, h2, h3⟩ := hH
          refine ⟨h1, h2, ?_⟩
          rcases h3 with h3 | ⟨m, h3, h4, h5⟩
          · exact .inl h3
          · refine .inr ⟨m, h3, ?_, fun t ht => h5 t ?_⟩
            · show (m : Int) ≤ sm 0 4 + 1
              omega
            · obtain ⟨t1, t2, t3, t4⟩ := ht
              refine ⟨t1, t2, fun b hb => ?_, t4⟩
              have hbn : b ≠ n := by omega
              have := t3 b hb
              have q1 : t 4 b = (put sm 4 (ix (sm 0 4)) a4) 4 b := this.1
              have q2 : t 8 b = (put sm 8 (ix (sm 0 4)) (nz a5)) 8 b := this.2
              rw [put_at, ixm, if_neg hbn] at q1 q2
              exact ⟨q1, q2⟩
      refine T_bind (T_gd ib (T_gd ib (T_gd ib (T_gd ib ?_))))
      show T (if w32 a5 = 0 then b_Boards_add_55 0 (put (put (put (put sx 2 (ix (sx 1 0)) a1) 3 (ix (sx 1 0)) a2) 4 (ix (sx 1 0)) a3) 5 (ix (sx 1 0)) a4) (sx 1 0) 0 (sx 1 0) else b_Boards_add_55 0 (put (put (put (put sx 2 (ix (sx 1 0)) a1) 3 (ix (sx 1 0)) a2) 4 (ix (sx 1 0)) a3) 5 (ix (sx 1 0)) a4) (sx 1 0) 1 (sx 1 0)) _
      rw [ixx]
      rcases r5 with r5 | r5
      · exact T_yes (by subst r5; decide) (key 0 (by subst r5; decide))
      · exact T_no (by subst r5; decide) (key 1 (by subst r5; decide))
    · refine T_no (show ¬ w32 (sx 1 0) < w32 24 by omega) (T_bind (T_some (T_some ?_)))
      refine T_no (show ¬ w32 a1 < 0 by omega) (T_no (show ¬ w32 7 < w32 a1 by omega) (T_no (show ¬ w32 a2 < 0 by omega) (T_no (show ¬ w32 3 < w32 a2 by omega) (T_no (show ¬ w32 a3 < 0 by omega) (T_no (show ¬ w32 15 < w32 a3 by omega) (T_no (show ¬ w32 a4 < 0 by omega) (T_yes (show w32 a4 ≤ w32 99 by omega) (T_yes (show w32 (sm 0 4) = w32 24 by omega) ?_))))))))
      exact T_bind (T_some (T_some ⟨rfl, hB0, hJ, hL, rfl, hM, hF, hT, hR, hH, hP⟩))
  · have hm : T (f_M_board sm a1 a2 a3 a4 a5) (fun q2 => w32 (-1) = w32 q2.1 ∧ INV F (put sx 0 13 2) q2.2) := by
      have hb : T (b_M_board_51 0 (put (put sm 0 1 0) 0 0 0)) (fun q2 => w32 (-1) = w32 q2.1 ∧ INV F (put sx 0 13 2) q2.2) := T_bind (T_some (T_some ⟨rfl, hB0, hJ, hL, rfl, hM, hF, hT, hR, hH, hP⟩))
      exact T_if (fun _ => hb) (fun _ => T_if (fun _ => hb) (fun _ => T_if (fun _ => hb) (fun _ => T_if (fun _ => hb) (fun _ => T_if (fun _ => hb) (fun _ => T_if (fun _ => hb) (fun _ => T_if (fun _ => hb) (fun _ => T_no (by omega) hb)))))))
    have hx : T (b_H_board_40 0 sx) (fun q1 => T (f_M_board sm a1 a2 a3 a4 a5) (fun q2 => w32 q1.1 = w32 q2.1 ∧ INV F q1.2 q2.2)) := T_bind (T_some (T_some hm))
    refine mk2 (T_bind (T_eq (within_eq r1 (by unfold i32; decide) (by unfold i32; decide)) (T_if (fun _ => hx) (fun d1 => ?_))))
    refine T_bind (T_eq (within_eq r2 (by unfold i32; decide) (by unfold i32; decide)) (T_if (fun _ => hx) (fun d2 => ?_)))
    refine T_bind (T_eq (within_eq r3 (by unfold i32; decide) (by unfold i32; decide)) (T_if (fun _ => hx) (fun d3 => ?_)))
    refine T_bind (T_eq (within_eq r4 (by unfold i32; decide) (by unfold i32; decide)) (T_yes (b01_0.mpr fun d4 => ?_) hx))
    have f1 := Decidable.not_not.mp (fun q => d1 (b01_0.mpr q))
    have f2 := Decidable.not_not.mp (fun q => d2 (b01_0.mpr q))
    have f3 := Decidable.not_not.mp (fun q => d3 (b01_0.mpr q))
    exact c ⟨f1, f2, f3, d4⟩
