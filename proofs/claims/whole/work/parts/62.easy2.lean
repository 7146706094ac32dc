theorem s_judge {F : Nat} : st_judge F (INV F) := by
  intro sx sm h a1 a2 a3 r1 r2 r3
  obtain ⟨hB, hJ, hL, hS, hM, hF, hT, hR, hH, hP⟩ := h
  have e1 : w32 a1 = a1 := wid r1.1 r1.2
  have e2 : w32 a2 = a2 := wid r2.1 r2.2
  have e3 : w32 a3 = a3 := wid r3.1 r3.2
  have k1 : w32 255 = 255 := by decide
  have k2 : w32 (-1) = -1 := by decide
  have k15 : w32 15 = 15 := by decide
  have k24 : w32 24 = 24 := by decide
  have k12 : w32 12 = 12 := by decide
  have hJ0 := hJ
  obtain ⟨⟨b1, b2, b3⟩, b4⟩ := hJ
  have eb : w32 (sm 0 5) = sm 0 5 := wid (by omega) (by omega)
  have ebx : w32 (sx 7 0) = sm 0 5 := by rw [b1]; exact eb
  by_cases c : (0 ≤ a1 ∧ a1 ≤ 255) ∧ (-1 ≤ a2 ∧ a2 ≤ 15) ∧ (0 ≤ a3 ∧ a3 ≤ 24)
  · refine mk2 (T_bind (T_eq (within_eq r1 (by unfold i32; decide) (by unfold i32; decide)) (T_no (fun q => b01_0.mp q c.1) ?_)))
    refine T_bind (T_eq (within_eq r2 (by unfold i32; decide) (by unfold i32; decide)) (T_no (fun q => b01_0.mp q c.2.1) ?_))
    refine T_bind (T_eq (within_eq r3 (by unfold i32; decide) (by unfold i32; decide)) (T_no (fun q => b01_0.mp q c.2.2) ?_))
    by_cases c2 : sm 0 5 < 12
    · refine T_yes (show w32 (sx 7 0) < w32 12 by omega) ?_
      have ib : inb (sx 7 0) 12 := by unfold inb; rw [ebx]; omega
      have ibm : inb (sm 0 5) 12 := by unfold inb; rw [eb]; omega
      obtain ⟨n, hn⟩ : ∃ n : Nat, sm 0 5 = n := ⟨(sm 0 5).toNat, by omega⟩
      have ixm : ix (sm 0 5) = n := by rw [hn]; exact ix_nat (by omega)
      have ixx : ix (sx 7 0) = n := by rw [b1]; exact ixm
      refine T_bind (T_gd ib (T_gd ib (T_gd ib (T_some (T_bind (T_some (T_some ?_)))))))
      refine T_no (show ¬ w32 a1 < 0 by omega) (T_no (show ¬ w32 255 < w32 a1 by omega) (T_no (show ¬ w32 a2 < w32 (-1) by omega) (T_no (show ¬ w32 15 < w32 a2 by omega) (T_no (show ¬ w32 a3 < 0 by omega) (T_yes (show w32 a3 ≤ w32 24 by omega) (T_no (show ¬ w32 (sm 0 5) = w32 12 by omega) ?_))))))
      refine T_gd ibm (T_gd ibm (T_gd ibm (T_some ⟨?_, hB, ?_, hL, rfl, ?_, hF, hT, hR, hH, hP⟩)))
      · show w32 (sx 7 0) = w32 (sm 0 5 + 1 - 1)
        rw [b1, Int.add_sub_cancel]
      · refine ⟨⟨?_, ?_, ?_⟩, ?_⟩
        · show sx 7 0 + 1 = sm 0 5 + 1
          rw [b1]
        · show 0 ≤ sm 0 5 + 1
          omega
        · show sm 0 5 + 1 ≤ 12
          omega
        · intro b hb
          have hb2 : (b : Int) < sm 0 5 + 1 := hb
          show ((put sx 8 (ix (sx 7 0)) a1) 8 b = (put sm 5 (ix (sm 0 5)) a1) 5 b ∧ 0 ≤ (put sm 5 (ix (sm 0 5)) a1) 5 b ∧ (put sm 5 (ix (sm 0 5)) a1) 5 b ≤ 255) ∧ ((put sx 9 (ix (sx 7 0)) a2) 9 b = (put sm 6 (ix (sm 0 5)) a2) 6 b ∧ -1 ≤ (put sm 6 (ix (sm 0 5)) a2) 6 b ∧ (put sm 6 (ix (sm 0 5)) a2) 6 b ≤ 15) ∧ ((put sx 10 (ix (sx 7 0)) a3) 10 b = (put sm 7 (ix (sm 0 5)) a3) 7 b ∧ 0 ≤ (put sm 7 (ix (sm 0 5)) a3) 7 b ∧ (put sm 7 (ix (sm 0 5)) a3) 7 b ≤ 24)
          simp only [put_at, ixm, ixx]
          by_cases hbn : b = n
          · simp only [if_pos hbn]
            exact ⟨⟨trivial, c.1.1, c.1.2⟩, ⟨trivial, c.2.1.1, c.2.1.2⟩, ⟨trivial, c.2.2.1, c.2.2.2⟩⟩
          · simp only [if_neg hbn]
            exact b4 b (by omega)
      · obtain ⟨m1, m2⟩ := hM
        refine ⟨m1, fun k hk => ?_⟩
        obtain ⟨z1, z3⟩ := m2 k hk
        refine ⟨⟨z1.1, z1.2.1, ?_⟩, z3⟩
        show sm 20 k < sm 0 5 + 1
        omega
    · refine T_no (show ¬ w32 (sx 7 0) < w32 12 by omega) (T_bind (T_some (T_some ?_)))
      refine T_no (show ¬ w32 a1 < 0 by omega) (T_no (show ¬ w32 255 < w32 a1 by omega) (T_no (show ¬ w32 a2 < w32 (-1) by omega) (T_no (show ¬ w32 15 < w32 a2 by omega) (T_no (show ¬ w32 a3 < 0 by omega) (T_yes (show w32 a3 ≤ w32 24 by omega) (T_yes (show w32 (sm 0 5) = w32 12 by omega) ?_))))))
      exact T_bind (T_some (T_some ⟨rfl, hB, hJ0, hL, rfl, hM, hF, hT, hR, hH, hP⟩))
  · have hm : T (f_M_judge sm a1 a2 a3) (fun q2 => w32 (-1) = w32 q2.1 ∧ INV F (put sx 0 13 2) q2.2) := by
      have hb : T (b_M_judge_42 0 (put (put sm 0 1 0) 0 0 0)) (fun q2 => w32 (-1) = w32 q2.1 ∧ INV F (put sx 0 13 2) q2.2) := T_bind (T_some (T_some ⟨rfl, hB, hJ0, hL, rfl, hM, hF, hT, hR, hH, hP⟩))
      exact T_if (fun _ => hb) (fun _ => T_if (fun _ => hb) (fun _ => T_if (fun _ => hb) (fun _ => T_if (fun _ => hb) (fun _ => T_if (fun _ => hb) (fun _ => T_no (by omega) hb)))))
    have hx : T (b_H_judge_31 0 sx) (fun q1 => T (f_M_judge sm a1 a2 a3) (fun q2 => w32 q1.1 = w32 q2.1 ∧ INV F q1.2 q2.2)) := T_bind (T_some (T_some hm))
    refine mk2 (T_bind (T_eq (within_eq r1 (by unfold i32; decide) (by unfold i32; decide)) (T_if (fun _ => hx) (fun d1 => ?_))))
    refine T_bind (T_eq (within_eq r2 (by unfold i32; decide) (by unfold i32; decide)) (T_if (fun _ => hx) (fun d2 => ?_)))
    refine T_bind (T_eq (within_eq r3 (by unfold i32; decide) (by unfold i32; decide)) (T_yes (b01_0.mpr fun d3 => ?_) hx))
    have f1 := Decidable.not_not.mp (fun q => d1 (b01_0.mpr q))
    have f2 := Decidable.not_not.mp (fun q => d2 (b01_0.mpr q))
    exact c ⟨f1, f2, d3⟩
theorem s_hall {F : Nat} : st_hall F (INV F) := by
  intro sx sm h a1 a2 a3 r1 r2 r3
  obtain ⟨hB, hJ, hL, hS, hM, hF, hT, hR, hH, hP⟩ := h
  have e1 : w32 a1 = a1 := wid r1.1 r1.2
  have e2 : w32 a2 = a2 := wid r2.1 r2.2
  have e3 : w32 a3 = a3 := wid r3.1 r3.2
  have k1 : w32 24 = 24 := by decide
  have k2 : w32 999 = 999 := by decide
  have k3 : w32 4 = 4 := by decide
  have hH0 := hH
  obtain ⟨⟨b1, b2, b3⟩, b4, -⟩ := hH
  have eb : w32 (sm 0 70) = sm 0 70 := wid (by omega) (by omega)
  have ebx : w32 (sx 72 0) = sm 0 70 := by rw [b1]; exact eb
  by_cases c : (0 ≤ a1 ∧ a1 ≤ 24) ∧ (0 ≤ a2 ∧ a2 ≤ 999) ∧ (0 ≤ a3 ∧ a3 ≤ 24)
  · refine mk2 (T_bind (T_eq (within_eq r1 (by unfold i32; decide) (by unfold i32; decide)) (T_no (fun q => b01_0.mp q c.1) ?_)))
    refine T_bind (T_eq (within_eq r2 (by unfold i32; decide) (by unfold i32; decide)) (T_no (fun q => b01_0.mp q c.2.1) ?_))
    refine T_bind (T_eq (within_eq r3 (by unfold i32; decide) (by unfold i32; decide)) (T_no (fun q => b01_0.mp q c.2.2) ?_))
    by_cases c2 : sm 0 70 < 4
    · refine T_yes (show w32 (sx 72 0) < w32 4 by omega) ?_
      have ib : inb (sx 72 0) 4 := by unfold inb; rw [ebx]; omega
      have ibm : inb (sm 0 70) 4 := by unfold inb; rw [eb]; omega
      obtain ⟨n, hn⟩ : ∃ n : Nat, sm 0 70 = n := ⟨(sm 0 70).toNat, by omega⟩
      have ixm : ix (sm 0 70) = n := by rw [hn]; exact ix_nat (by omega)
      have ixx : ix (sx 72 0) = n := by rw [b1]; exact ixm
      refine T_bind (T_gd ib (T_gd ib (T_gd ib (T_some (T_bind (T_some (T_some ?_)))))))
      refine T_no (show ¬ w32 a1 < 0 by omega) (T_no (show ¬ w32 24 < w32 a1 by omega) (T_no (show ¬ w32 a2 < 0 by omega) (T_no (show ¬ w32 999 < w32 a2 by omega) (T_no (show ¬ w32 a3 < 0 by omega) (T_yes (show w32 a3 ≤ w32 24 by omega) (T_no (show ¬ w32 (sm 0 70) = w32 4 by omega) ?_))))))
      refine T_gd ibm (T_gd ibm (T_gd ibm (T_some ⟨?_, hB, hJ, hL, rfl, hM, hF, hT, hR, ?_, hP⟩)))
      · show w32 (sx 72 0) = w32 (sm 0 70 + 1 - 1)
        rw [b1, Int.add_sub_cancel]
      · refine ⟨⟨?_, ?_, ?_⟩, ?_, .inl rfl⟩
        · show sx 72 0 + 1 = sm 0 70 + 1
          rw [b1]
        · show 0 ≤ sm 0 70 + 1
          omega
        · show sm 0 70 + 1 ≤ 4
          omega
        · intro b hb
          have hb2 : (b : Int) < sm 0 70 + 1 := hb
          show ((put sx 74 (ix (sx 72 0)) a1) 74 b = (put sm 50 (ix (sm 0 70)) a1) 50 b ∧ 0 ≤ (put sm 50 (ix (sm 0 70)) a1) 50 b ∧ (put sm 50 (ix (sm 0 70)) a1) 50 b ≤ 24) ∧ ((put sx 75 (ix (sx 72 0)) a2) 75 b = (put sm 51 (ix (sm 0 70)) a2) 51 b ∧ 0 ≤ (put sm 51 (ix (sm 0 70)) a2) 51 b ∧ (put sm 51 (ix (sm 0 70)) a2) 51 b ≤ 999) ∧ ((put sx 76 (ix (sx 72 0)) a3) 76 b = (put sm 52 (ix (sm 0 70)) a3) 52 b ∧ 0 ≤ (put sm 52 (ix (sm 0 70)) a3) 52 b ∧ (put sm 52 (ix (sm 0 70)) a3) 52 b ≤ 24)
          simp only [put_at, ixm, ixx]
          by_cases hbn : b = n
          · simp only [if_pos hbn]
            exact ⟨⟨trivial, c.1.1, c.1.2⟩, ⟨trivial, c.2.1.1, c.2.1.2⟩, ⟨trivial, c.2.2.1, c.2.2.2⟩⟩
          · simp only [if_neg hbn]
            exact b4 b (by omega)
    · refine T_no (show ¬ w32 (sx 72 0) < w32 4 by omega) (T_bind (T_some (T_some ?_)))
      refine T_no (show ¬ w32 a1 < 0 by omega) (T_no (show ¬ w32 24 < w32 a1 by omega) (T_no (show ¬ w32 a2 < 0 by omega) (T_no (show ¬ w32 999 < w32 a2 by omega) (T_no (show ¬ w32 a3 < 0 by omega) (T_yes (show w32 a3 ≤ w32 24 by omega) (T_yes (show w32 (sm 0 70) = w32 4 by omega) ?_))))))
      exact T_bind (T_some (T_some ⟨rfl, hB, hJ, hL, rfl, hM, hF, hT, hR, hH0, hP⟩))
  · have hm : T (f_M_hall sm a1 a2 a3) (fun q2 => w32 (-1) = w32 q2.1 ∧ INV F (put sx 0 13 2) q2.2) := by
      have hb : T (b_M_hall_41 0 (put (put sm 0 1 0) 0 0 0)) (fun q2 => w32 (-1) = w32 q2.1 ∧ INV F (put sx 0 13 2) q2.2) := T_bind (T_some (T_some ⟨rfl, hB, hJ, hL, rfl, hM, hF, hT, hR, hH0, hP⟩))
      exact T_if (fun _ => hb) (fun _ => T_if (fun _ => hb) (fun _ => T_if (fun _ => hb) (fun _ => T_if (fun _ => hb) (fun _ => T_if (fun _ => hb) (fun _ => T_no (by omega) hb)))))
    have hx : T (b_H_hall_31 0 sx) (fun q1 => T (f_M_hall sm a1 a2 a3) (fun q2 => w32 q1.1 = w32 q2.1 ∧ INV F q1.2 q2.2)) := T_bind (T_some (T_some hm))
    refine mk2 (T_bind (T_eq (within_eq r1 (by unfold i32; decide) (by unfold i32; decide)) (T_if (fun _ => hx) (fun d1 => ?_))))
    refine T_bind (T_eq (within_eq r2 (by unfold i32; decide) (by unfold i32; decide)) (T_if (fun _ => hx) (fun d2 => ?_)))
    refine T_bind (T_eq (within_eq r3 (by unfold i32; decide) (by unfold i32; decide)) (T_yes (b01_0.mpr fun d3 => ?_) hx))
    have f1 := Decidable.not_not.mp (fun q => d1 (b01_0.mpr q))
    have f2 := Decidable.not_not.mp (fun q => d2 (b01_0.mpr q))
    exact c ⟨f1, f2, d3⟩
theorem s_mark {F : Nat} : st_mark F (INV F) := by
  intro sx sm h a1 a2 a3 a4 r1 r2 r3 r4
  obtain ⟨hB, hJ, hL, hS, hM, hF, hT, hR, hH, hP⟩ := h
  have e3 : w32 a3 = a3 := wid r3.1 r3.2
  have k1 : w32 100 = 100 := by decide
  have k2 : w32 200 = 200 := by decide
  have hM0 := hM
  obtain ⟨⟨b1, b2, b3⟩, b4⟩ := hM
  have eb : w32 (sm 0 29) = sm 0 29 := wid (by omega) (by omega)
  have ebx : w32 (sx 19 0) = sm 0 29 := by rw [b1]; exact eb
  have j5 : i32 (sm 0 5) := by have := hJ.1; unfold i32; omega
  have j4 : i32 (sm 0 4) := by have := hB.1; unfold i32; omega
  have x7 : sx 7 0 = sm 0 5 := hJ.1.1
  have x1 : sx 1 0 = sm 0 4 := hB.1.1
  have sH : ∀ v : Int, INV F (put sx 0 13 v) (put (put (put sm 0 1 0) 0 0 0) 0 0 v) := fun v => ⟨hB, hJ, hL, rfl, hM0, hF, hT, hR, hH, hP⟩
  refine mk2 (T_bind (T_eq (hasJ_eq r1 (by rw [x7]; exact j5)) ?_))
  have mj : ∀ {P : Int × St → Prop}, (0 ≤ a1 ∧ a1 < sm 0 5 → T ((f_M_isBoard (put (put sm 0 1 0) 0 0 0) a2).bind fun q5 => if w32 q5.1 = 0 then b_M_mark_26 0 q5.2 else if w32 a3 < 0 then b_M_mark_50 0 q5.2 else if w32 100 < w32 a3 then b_M_mark_50 0 q5.2 else (f_M_isDay q5.2 a4).bind fun q9 => if w32 q9.1 = 0 then b_M_mark_50 0 q9.2 else if w32 (q9.2 0 29) = w32 200 then (f_M_refuse q9.2 3).bind fun q12 => some (q12.1, q12.2) else gd (inb (q9.2 0 29) 200) (let s14 := put q9.2 20 (ix (q9.2 0 29)) a1; gd (inb (s14 0 29) 200) (let s16 := put s14 21 (ix (s14 0 29)) a2; gd (inb (s16 0 29) 200) (let s18 := put s16 22 (ix (s16 0 29)) a3; gd (inb (s18 0 29) 200) (let s20 := put s18 23 (ix (s18 0 29)) a4; gd (inb (s20 0 29) 200) (let s22 := put s20 24 (ix (s20 0 29)) (-1); let s23 := put s22 0 29 ((s22 0 29) + 1); some ((s23 0 29) - 1, s23))))))) P) → (¬ (0 ≤ a1 ∧ a1 < sm 0 5) → T (b_M_mark_26 0 (put (put sm 0 1 0) 0 0 0)) P) → T (f_M_mark sm a1 a2 a3 a4) P := by
    intro P p1 p2
    refine T_bind (T_eq (isJ_eq r1 j5) (T_if (fun q => p2 (b01_0.mp q)) (fun q => p1 (Decidable.not_not.mp (fun z => q (b01_0.mpr z))))))
  by_cases c1 : 0 ≤ a1 ∧ a1 < sm 0 5
  · refine T_no (fun q => b01_0.mp q (by rw [x7]; exact c1)) (T_bind (T_eq (hasB_eq r2 (show i32 (sx 1 0) by rw [x1]; exact j4)) ?_))
    by_cases c2 : 0 ≤ a2 ∧ a2 < sm 0 4
    · refine T_no (fun q => b01_0.mp q (show 0 ≤ a2 ∧ a2 < sx 1 0 by rw [x1]; exact c2)) (T_bind (T_eq (within_eq r3 (by unfold i32; decide) (by unfold i32; decide)) ?_))
      by_cases c3 : 0 ≤ a3 ∧ a3 ≤ 100
      · refine T_no (fun q => b01_0.mp q c3) (T_bind (T_eq (isDayH_eq r4) ?_))
        by_cases c4 : 0 ≤ a4 ∧ a4 ≤ 999
        · refine T_no (fun q => b01_0.mp q c4) ?_
          by_cases c5 : sm 0 29 < 200
          · refine T_yes (show w32 (sx 19 0) < w32 200 by omega) ?_
            have ib : inb (sx 19 0) 200 := by unfold inb; rw [ebx]; omega
            have ibm : inb (sm 0 29) 200 := by unfold inb; rw [eb]; omega
            obtain ⟨n, hn⟩ : ∃ n : Nat, sm 0 29 = n := ⟨(sm 0 29).toNat, by omega⟩
            have ixm : ix (sm 0 29) = n := by rw [hn]; exact ix_nat (by omega)
            have ixx : ix (sx 19 0) = n := by rw [b1]; exact ixm
            refine T_bind (T_gd ib (T_gd ib (T_gd ib (T_gd ib (T_gd ib (T_some (T_bind (T_some (T_some ?_)))))))))
            refine mj (fun _ => ?_) (fun q => absurd c1 q)
            refine T_bind (T_eq (isB_eq r2 j4) (T_no (fun q => b01_0.mp q c2) (T_no (by omega) (T_no (by omega) ?_))))
            refine T_bind (T_eq (isDayM_eq r4) (T_no (fun q => b01_0.mp q c4) (T_no (show ¬ w32 (sm 0 29) = w32 200 by omega) ?_)))
            refine T_gd ibm (T_gd ibm (T_gd ibm (T_gd ibm (T_gd ibm (T_some ⟨?_, hB, hJ, hL, rfl, ?_, hF, hT, hR, hH, hP⟩)))))
            · show w32 (sx 19 0) = w32 (sm 0 29 + 1 - 1)
              rw [b1, Int.add_sub_cancel]
            · refine ⟨⟨?_, ?_, ?_⟩, ?_⟩
              · show sx 19 0 + 1 = sm 0 29 + 1
                rw [b1]
              · show 0 ≤ sm 0 29 + 1
                omega
              · show sm 0 29 + 1 ≤ 200
                omega
              · intro k hk
                have hk2 : (k : Int) < sm 0 29 + 1 := hk
                show ((put sx 20 (ix (sx 19 0)) a1) 20 k = (put sm 20 (ix (sm 0 29)) a1) 20 k ∧ 0 ≤ (put sm 20 (ix (sm 0 29)) a1) 20 k ∧ (put sm 20 (ix (sm 0 29)) a1) 20 k < sm 0 5) ∧ ((put sx 21 (ix (sx 19 0)) a2) 21 k = (put sm 21 (ix (sm 0 29)) a2) 21 k ∧ 0 ≤ (put sm 21 (ix (sm 0 29)) a2) 21 k ∧ (put sm 21 (ix (sm 0 29)) a2) 21 k < sm 0 4) ∧ ((put sx 22 (ix (sx 19 0)) a3) 22 k = (put sm 22 (ix (sm 0 29)) a3) 22 k ∧ 0 ≤ (put sm 22 (ix (sm 0 29)) a3) 22 k ∧ (put sm 22 (ix (sm 0 29)) a3) 22 k ≤ 100) ∧ ((put sx 23 (ix (sx 19 0)) a4) 23 k = (put sm 23 (ix (sm 0 29)) a4) 23 k ∧ 0 ≤ (put sm 23 (ix (sm 0 29)) a4) 23 k ∧ (put sm 23 (ix (sm 0 29)) a4) 23 k ≤ 999) ∧ ((put sx 24 (ix (sx 19 0)) (-1)) 24 k = (put sm 24 (ix (sm 0 29)) (-1)) 24 k ∧ -1 ≤ (put sm 24 (ix (sm 0 29)) (-1)) 24 k ∧ (put sm 24 (ix (sm 0 29)) (-1)) 24 k ≤ 999)
                simp only [put_at, ixm, ixx]
                by_cases hbn : k = n
                · simp only [if_pos hbn]
                  exact ⟨⟨trivial, c1.1, c1.2⟩, ⟨trivial, c2.1, c2.2⟩, ⟨trivial, c3.1, c3.2⟩, ⟨trivial, c4.1, c4.2⟩, trivial, by decide, by decide⟩
                · simp only [if_neg hbn]
                  exact b4 k (by omega)
          · refine T_no (show ¬ w32 (sx 19 0) < w32 200 by omega) (T_bind (T_some (T_some ?_)))
            refine mj (fun _ => ?_) (fun q => absurd c1 q)
            refine T_bind (T_eq (isB_eq r2 j4) (T_no (fun q => b01_0.mp q c2) (T_no (by omega) (T_no (by omega) ?_))))
            refine T_bind (T_eq (isDayM_eq r4) (T_no (fun q => b01_0.mp q c4) (T_yes (show w32 (sm 0 29) = w32 200 by omega) ?_)))
            exact T_bind (T_some (T_some ⟨rfl, sH 3⟩))
        · refine T_yes (b01_0.mpr c4) (T_bind (T_some (T_some ?_)))
          refine mj (fun _ => ?_) (fun q => absurd c1 q)
          refine T_bind (T_eq (isB_eq r2 j4) (T_no (fun q => b01_0.mp q c2) (T_no (by omega) (T_no (by omega) ?_))))
          exact T_bind (T_eq (isDayM_eq r4) (T_yes (b01_0.mpr c4) (T_bind (T_some (T_some ⟨rfl, sH 2⟩)))))
      · refine T_yes (b01_0.mpr c3) (T_bind (T_some (T_some ?_)))
        refine mj (fun _ => ?_) (fun q => absurd c1 q)
        have hb : T (b_M_mark_50 0 (put (put sm 0 1 0) 0 0 0)) (fun q2 => w32 (-1) = w32 q2.1 ∧ INV F (put sx 0 13 2) q2.2) := T_bind (T_some (T_some ⟨rfl, sH 2⟩))
        exact T_bind (T_eq (isB_eq r2 j4) (T_no (fun q => b01_0.mp q c2) (T_if (fun _ => hb) (fun _ => T_yes (by omega) hb))))
    · refine T_yes (b01_0.mpr (show ¬ (0 ≤ a2 ∧ a2 < sx 1 0) by rw [x1]; exact c2)) (T_bind (T_some (T_some ?_)))
      refine mj (fun _ => ?_) (fun q => absurd c1 q)
      exact T_bind (T_eq (isB_eq r2 j4) (T_yes (b01_0.mpr c2) (T_bind (T_some (T_some ⟨rfl, sH 1⟩)))))
  · refine T_yes (b01_0.mpr (by rw [x7]; exact c1)) (T_bind (T_some (T_some ?_)))
    exact mj (fun q => absurd q c1) (fun _ => T_bind (T_some (T_some ⟨rfl, sH 1⟩)))
theorem s_lose {F : Nat} : st_lose F (INV F) := by
  intro sx sm h a1 a2 r1 r2
  obtain ⟨hB, hJ, hL, hS, hM, hF, hT, hR, hH, hP⟩ := h
  have e1 : w32 a1 = a1 := wid r1.1 r1.2
  have k2 : w32 (-1) = -1 := by decide
  have hM0 := hM
  obtain ⟨⟨b1, b2, b3⟩, b4⟩ := hM
  have eb : w32 (sm 0 29) = sm 0 29 := wid (by omega) (by omega)
  have sH : ∀ v : Int, INV F (put sx 0 13 v) (put (put (put sm 0 1 0) 0 0 0) 0 0 v) := fun v => ⟨hB, hJ, hL, rfl, hM0, hF, hT, hR, hH, hP⟩
  refine mk2 (T_bind (T_eq (hasK_eq r1 (by rw [b1]; unfold i32; omega)) ?_))
  by_cases c1 : 0 ≤ a1 ∧ a1 < sm 0 29
  · refine T_no (fun q => b01_0.mp q (by rw [b1]; exact c1)) (T_bind (T_eq (isDayH_eq r2) ?_))
    by_cases c2 : 0 ≤ a2 ∧ a2 ≤ 999
    · have ib : inb a1 200 := inb_id c1.1 (by omega) (by decide)
      obtain ⟨n, hn⟩ : ∃ n : Nat, a1 = n := ⟨a1.toNat, by omega⟩
      have ixm : ix a1 = n := by rw [hn]; exact ix_nat (by omega)
      have bk := b4 n (by omega)
      have q24 : sx 24 n = sm 24 n := bk.2.2.2.2.1
      have e24 : w32 (sm 24 n) = sm 24 n := wid (by omega) (by omega)
      have f24 : w32 (sx 24 n) = sm 24 n := by rw [q24]; exact e24
      refine T_no (fun q => b01_0.mp q c2) (T_gd ib ?_)
      by_cases c3 : sm 24 n = -1
      · refine T_yes (show w32 (sx 24 (ix a1)) = w32 (-1) by rw [ixm]; omega) (T_gd ib (T_bind (T_some (T_gd (by first | exact gq1 | exact gq0) (T_some ?_)))))
        refine T_no (by omega) (T_yes (show w32 a1 < w32 (sm 0 29) by omega) (T_bind (T_eq (isDayM_eq r2) (T_no (fun q => b01_0.mp q c2) (T_gd ib (T_yes (show w32 (sm 24 (ix a1)) < 0 by rw [ixm]; omega) (T_gd ib (T_some ⟨rfl, hB, hJ, hL, rfl, ?_, hF, hT, hR, hH, hP⟩))))))))
        refine ⟨⟨b1, b2, b3⟩, fun k hk => ?_⟩
        have z := b4 k hk
        refine ⟨z.1, z.2.1, z.2.2.1, z.2.2.2.1, ?_⟩
        show (put sx 24 (ix a1) a2) 24 k = (put sm 24 (ix a1) a2) 24 k ∧ -1 ≤ (put sm 24 (ix a1) a2) 24 k ∧ (put sm 24 (ix a1) a2) 24 k ≤ 999
        simp only [put_at, ixm]
        by_cases hbn : k = n
        · simp only [if_pos hbn]
          exact ⟨trivial, by omega, by omega⟩
        · simp only [if_neg hbn]
          exact z.2.2.2.2
      · refine T_no (show ¬ w32 (sx 24 (ix a1)) = w32 (-1) by rw [ixm]; omega) (T_bind (T_some (T_gd (by first | exact gq1 | exact gq0) (T_some ?_))))
        refine T_no (by omega) (T_yes (show w32 a1 < w32 (sm 0 29) by omega) (T_bind (T_eq (isDayM_eq r2) (T_no (fun q => b01_0.mp q c2) (T_gd ib (T_no (show ¬ w32 (sm 24 (ix a1)) < 0 by rw [ixm]; omega) ?_))))))
        exact T_bind (T_some (T_gd (by first | exact gq1 | exact gq0) (T_some ⟨rfl, sH 5⟩)))
    · refine T_yes (b01_0.mpr c2) (T_bind (T_some (T_gd (by first | exact gq1 | exact gq0) (T_some ?_))))
      exact T_no (by omega) (T_yes (show w32 a1 < w32 (sm 0 29) by omega) (T_bind (T_eq (isDayM_eq r2) (T_yes (b01_0.mpr c2) (T_bind (T_some (T_gd (by first | exact gq1 | exact gq0) (T_some ⟨rfl, sH 2⟩))))))))
  · refine T_yes (b01_0.mpr (by rw [b1]; exact c1)) (T_bind (T_some (T_gd (by first | exact gq1 | exact gq0) (T_some ?_))))
    have hb : T (b_M_lose_22 0 (put (put sm 0 1 0) 0 0 0)) (fun q2 => w32 0 = w32 q2.1 ∧ INV F (put sx 0 13 1) q2.2) := T_bind (T_some (T_gd (by first | exact gq1 | exact gq0) (T_some ⟨rfl, sH 1⟩)))
    exact T_if (fun _ => hb) (fun _ => T_no (show ¬ w32 a1 < w32 (sm 0 29) by omega) hb)
