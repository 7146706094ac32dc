theorem hasPB_eq {sg : St} {x : Int} (h1 : i32 x) (h2 : i32 (sg 11 1)) : f_Plan_hasBoard sg x = some (b01 (0 ≤ x ∧ x < sg 11 1), sg) := has_gen h1 h2
theorem hasPJ_eq {sg : St} {x : Int} (h1 : i32 x) (h2 : i32 (sg 11 2)) : f_Plan_hasJudge sg x = some (b01 (0 ≤ x ∧ x < sg 11 2), sg) := has_gen h1 h2
theorem s_holds {F : Nat} : st_holds F (INV F) := by
  intro sx sm h a1 r1
  obtain ⟨hB, hJ, hL, hS, hM, hF, hT, hR, hH, hP⟩ := h
  have sH : ∀ v : Int, INV F (put sx 0 13 v) (put (put (put sm 0 1 0) 0 0 0) 0 0 v) := fun v => ⟨hB, hJ, hL, rfl, hM, hF, hT, hR, hH, hP⟩
  have sG : INV F (put sx 0 13 0) (put (put sm 0 1 0) 0 0 0) := ⟨hB, hJ, hL, rfl, hM, hF, hT, hR, hH, hP⟩
  obtain ⟨⟨p1, p2⟩, p3⟩ := hP
  have e1 : w32 a1 = a1 := wid r1.1 r1.2
  have k0 : w32 0 = 0 := by decide
  have k1 : w32 1 = 1 := by decide
  rcases p2 with p2 | p2
  · refine mk2 (T_yes (show w32 (sx 11 0) = 0 by rw [p1, p2]; exact k0) (T_bind (T_some (T_some (T_yes (show w32 (sm 0 15) = 0 by rw [p2]; exact k0) (T_bind (T_some (T_some ⟨rfl, sH 4⟩))))))))
  · obtain ⟨⟨q1, q2, q3⟩, ⟨q4, q5, q6⟩, q7⟩ := p3 p2
    have ew : w32 (sm 0 16) = sm 0 16 := wid (by omega) (by omega)
    have n1 : ¬ w32 (sx 11 0) = 0 := by rw [p1, p2, k1]; decide
    have n2 : ¬ w32 (sm 0 15) = 0 := by rw [p2, k1]; decide
    refine mk2 (T_no n1 (T_bind (T_eq (hasPB_eq r1 (by rw [q1]; exact ⟨by omega, by omega⟩)) ?_)))
    by_cases c1 : 0 ≤ a1 ∧ a1 < sm 0 16
    · obtain ⟨b, hb⟩ : ∃ n : Nat, a1 = n := ⟨a1.toNat, by omega⟩
      subst hb
      have ib : inb (b : Int) 24 := inbN (by omega) (by decide)
      have z := q7 b c1.2
      refine T_no (fun q => b01_0.mp q (by rw [q1]; exact c1)) (T_bind (T_some (T_some ?_)))
      refine T_no n2 (T_no (show ¬ w32 (b : Int) < 0 by omega) (T_yes (show w32 (b : Int) < w32 (sm 0 16) by omega) (T_gd ib ?_)))
      have e11 : w32 (sm 11 b) = sm 11 b := wid (by omega) (by omega)
      have ixb : ix (b : Int) = b := ix_nat (by omega)
      refine T_if (fun d => T_some ⟨?_, sG⟩) (fun d => T_some ⟨?_, sG⟩)
      · have d : w32 (sm 11 (ix b)) = 0 := d
        show w32 (andI (shrI (sx 11 4) b) 1) = w32 0
        rw [ixb] at d
        rw [z.1.1]
        omega
      · have d : ¬ w32 (sm 11 (ix b)) = 0 := d
        show w32 (andI (shrI (sx 11 4) b) 1) = w32 1
        rw [ixb] at d
        rw [z.1.1]
        omega
    · refine T_yes (b01_0.mpr (by rw [q1]; exact c1)) (T_bind (T_some (T_some ?_)))
      have hb : T (b_M_holds_35 0 (put (put sm 0 1 0) 0 0 0)) (fun q2 => w32 (-1) = w32 q2.1 ∧ INV F (put sx 0 13 1) q2.2) := T_bind (T_some (T_some ⟨rfl, sH 1⟩))
      exact T_no n2 (T_if (fun _ => hb) (fun _ => T_no (show ¬ w32 a1 < w32 (sm 0 16) by omega) hb))
theorem at_eq {sg : St} {b j : Nat} : f_M_at sg b j = some (((12 * b + j : Nat) : Int), sg) := by
  unfold f_M_at
  rw [show (12 : Int) * b + j = ((12 * b + j : Nat) : Int) by omega]
theorem s_sees {F : Nat} : st_sees F (INV F) := by
  intro sx sm h a1 a2 r1 r2
  obtain ⟨hB, hJ, hL, hS, hM, hF, hT, hR, hH, hP⟩ := h
  have sH : ∀ v : Int, INV F (put sx 0 13 v) (put (put (put sm 0 1 0) 0 0 0) 0 0 v) := fun v => ⟨hB, hJ, hL, rfl, hM, hF, hT, hR, hH, hP⟩
  have sG : INV F (put sx 0 13 0) (put (put sm 0 1 0) 0 0 0) := ⟨hB, hJ, hL, rfl, hM, hF, hT, hR, hH, hP⟩
  obtain ⟨⟨p1, p2⟩, p3⟩ := hP
  have e1 : w32 a1 = a1 := wid r1.1 r1.2
  have e2 : w32 a2 = a2 := wid r2.1 r2.2
  have k0 : w32 0 = 0 := by decide
  have k1 : w32 1 = 1 := by decide
  rcases p2 with p2 | p2
  · refine mk2 (T_yes (show w32 (sx 11 0) = 0 by rw [p1, p2]; exact k0) (T_bind (T_some (T_some (T_yes (show w32 (sm 0 15) = 0 by rw [p2]; exact k0) (T_bind (T_some (T_some ⟨rfl, sH 4⟩))))))))
  · obtain ⟨⟨q1, q2, q3⟩, ⟨q4, q5, q6⟩, q7⟩ := p3 p2
    have ew : w32 (sm 0 16) = sm 0 16 := wid (by omega) (by omega)
    have ew2 : w32 (sm 0 17) = sm 0 17 := wid (by omega) (by omega)
    have n1 : ¬ w32 (sx 11 0) = 0 := by rw [p1, p2, k1]; decide
    have n2 : ¬ w32 (sm 0 15) = 0 := by rw [p2, k1]; decide
    have hb : T (b_M_sees_47 0 (put (put sm 0 1 0) 0 0 0)) (fun q2 => w32 (-1) = w32 q2.1 ∧ INV F (put sx 0 13 1) q2.2) := T_bind (T_some (T_some ⟨rfl, sH 1⟩))
    refine mk2 (T_no n1 (T_bind (T_eq (hasPJ_eq r1 (by rw [q4]; exact ⟨by omega, by omega⟩)) ?_)))
    by_cases c1 : 0 ≤ a1 ∧ a1 < sm 0 17
    · refine T_no (fun q => b01_0.mp q (by rw [q4]; exact c1)) (T_bind (T_eq (hasPB_eq r2 (show i32 (sx 11 1) by rw [q1]; exact ⟨by omega, by omega⟩)) ?_))
      by_cases c2 : 0 ≤ a2 ∧ a2 < sm 0 16
      · obtain ⟨j, hj⟩ : ∃ n : Nat, a1 = n := ⟨a1.toNat, by omega⟩
        obtain ⟨b, hb2⟩ : ∃ n : Nat, a2 = n := ⟨a2.toNat, by omega⟩
        subst hj hb2
        have ib : inb (b : Int) 24 := inbN (by omega) (by decide)
        have z := (q7 b c2.2).2 j c1.2
        refine T_no (fun q => b01_0.mp q (show 0 ≤ (b : Int) ∧ (b : Int) < sx 11 1 by rw [q1]; exact c2)) (T_gd ib (T_bind (T_some (T_some ?_))))
        refine T_no n2 (T_no (show ¬ w32 (j : Int) < 0 by omega) (T_no (show ¬ w32 (sm 0 17) ≤ w32 (j : Int) by omega) (T_no (show ¬ w32 (b : Int) < 0 by omega) (T_yes (show w32 (b : Int) < w32 (sm 0 16) by omega) (T_bind (T_eq at_eq (T_gd (inbN (show 12 * b + j < 288 by omega) (by decide)) ?_)))))))
        have e11 : w32 (sm 9 (12 * b + j)) = sm 9 (12 * b + j) := wid (by omega) (by omega)
        have ixb : ix (b : Int) = b := ix_nat (by omega)
        have ixc : ix ((12 * b + j : Nat) : Int) = 12 * b + j := ix_nat (by omega)
        refine T_if (fun d => T_some ⟨?_, sG⟩) (fun d => T_some ⟨?_, sG⟩)
        · have d : w32 (sm 9 (ix ((12 * b + j : Nat) : Int))) = 0 := d
          show w32 (andI (shrI (sx 14 (ix b)) j) 1) = w32 0
          rw [ixc] at d
          rw [ixb, z.1]
          omega
        · have d : ¬ w32 (sm 9 (ix ((12 * b + j : Nat) : Int))) = 0 := d
          show w32 (andI (shrI (sx 14 (ix b)) j) 1) = w32 1
          rw [ixc] at d
          rw [ixb, z.1]
          omega
      · refine T_yes (b01_0.mpr (show ¬ (0 ≤ a2 ∧ a2 < sx 11 1) by rw [q1]; exact c2)) (T_bind (T_some (T_some ?_)))
        exact T_no n2 (T_no (by omega) (T_no (show ¬ w32 (sm 0 17) ≤ w32 a1 by omega) (T_if (fun _ => hb) (fun _ => T_no (show ¬ w32 a2 < w32 (sm 0 16) by omega) hb))))
    · refine T_yes (b01_0.mpr (by rw [q4]; exact c1)) (T_bind (T_some (T_some ?_)))
      exact T_no n2 (T_if (fun _ => hb) (fun _ => T_yes (show w32 (sm 0 17) ≤ w32 a1 by omega) hb))
