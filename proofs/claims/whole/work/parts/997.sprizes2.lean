def xP0 (cp e : Nat) (sx : St) : St := put (put (put (put (put sx 41 1 0) 41 2 (-1)) 41 4 (e : Int)) 41 7 0) cp 0 0
def mP0 (e : Nat) (sm : St) : St := put (put (put (put (put (put (put sm 0 1 0) 0 0 0) 0 46 (e : Int)) 0 45 0) 0 83 0) 0 49 0) 0 52 0
theorem s_prizes {F : Nat} (hF : 340 ≤ F) : st_prizes F (INV F) := by
  intro sx sm h a1 r1
  have h0 := h
  obtain ⟨hB, hJ, hL, hS, hM, hFr, hT, hR, hH, hP⟩ := h
  obtain ⟨⟨t1, t2, t3⟩, t4, t5, t6⟩ := hT
  have ea : w32 a1 = a1 := by unfold i32 at r1; exact wid (by omega) (by omega)
  have e45 : w32 (sm 0 45) = sm 0 45 := wid (by omega) (by omega)
  have i45 : i32 (sx 41 0) := by unfold i32; omega
  have hW : f_H_within sx a1 0 (sx 41 0) = some (b01 (0 ≤ a1 ∧ a1 ≤ sx 41 0), sx) := within_eq r1 (by unfold i32; decide) i45
  unfold f_H_prizes f_M_prizes
  by_cases c : 0 ≤ a1 ∧ a1 ≤ sm 0 45
  · obtain ⟨e, rfl⟩ : ∃ e : Nat, a1 = e := ⟨a1.toNat, by omega⟩
    have key : ∀ {cp kp : Nat}, ((cp = 80 ∧ kp = 88) ∨ (cp = 88 ∧ kp = 80)) → sx 0 10 = kp → sx 0 11 = cp → IRr kp sx sm → T (f_H_prizes F sx (e : Int)) (fun q1 => T (f_M_prizes F sm (e : Int)) (fun q2 => w32 q1.1 = w32 q2.1 ∧ INV F q1.2 q2.2)) := by
      intro cp kp hcp h10 h11 hk
      have hcp8 : cp = 80 ∨ cp = 88 := by omega
      have hX0 : XTP e (sx 42) (xP0 cp e sx) := by
        refine ⟨by omega, ?_, fun k => ?_, fun k => by have := t6 k; omega⟩
        · unfold xP0; rw [put_c (by omega), put_j (by decide), put_eq]
        · unfold xP0; rw [put_c (by omega), put_c (by decide), put_c (by decide), put_c (by decide), put_c (by decide)]
      have hM0 : MTP e (sx 42) (mP0 e sm) := by
        refine ⟨by omega, ?_, fun k => ?_, fun k => by have := t6 k; omega⟩
        · unfold mP0; rw [put_j (by decide), put_j (by decide), put_j (by decide), put_j (by decide), put_eq]
        · unfold mP0; rw [put_c (by decide), put_c (by decide), put_c (by decide), put_c (by decide), put_c (by decide), put_c (by decide), put_c (by decide)]; exact (t6 k).1.symm
      have x1 : xP0 cp e sx 41 1 = 0 := by unfold xP0; rw [put_c (by omega), put_j (by decide), put_j (by decide), put_j (by decide), put_eq]
      have x2' : xP0 cp e sx 41 2 = -1 := by unfold xP0; rw [put_c (by omega), put_j (by decide), put_j (by decide), put_eq]
      have x7 : xP0 cp e sx 41 7 = ((0 : Nat) : Int) := by unfold xP0; rw [put_c (by omega), put_eq]; rfl
      have xc : xP0 cp e sx cp 0 = ((0 : Nat) : Int) := put_eq _ _ _ _
      have m49 : mP0 e sm 0 49 = 0 := by unfold mP0; rw [put_j (by decide), put_eq]
      have m83 : mP0 e sm 0 83 = ((0 : Nat) : Int) := by unfold mP0; rw [put_j (by decide), put_j (by decide), put_eq]; rfl
      have m52 : mP0 e sm 0 52 = ((0 : Nat) : Int) := put_eq _ _ _ _
      have m45 : mP0 e sm 0 45 = 0 := by unfold mP0; rw [put_j (by decide), put_j (by decide), put_j (by decide), put_eq]
      have m00 : mP0 e sm 0 0 = 0 := by unfold mP0; rw [put_j (by decide), put_j (by decide), put_j (by decide), put_j (by decide), put_j (by decide), put_eq]
      obtain ⟨x2, m2, s1, s2, s3, s4, s5, s6⟩ := step2 (F := F) hX0 hM0 x1 m49 x7 m83 (by omega) (by omega)
      obtain ⟨f, rfl⟩ : ∃ f, F = f + 2 := ⟨F - 2, by omega⟩
      have hE : REND (f + 2) cp (xP0 cp e sx) (mP0 e sm) (l_Read_read_37 cp (f + 2) (fun s8 => some s8) (f + 2) x2 ((0 : Nat) : Int)) (l_M_prizes_57 (f + 2) (k92 (f + 2)) (f + 2) m2) := by
        rcases s6 with s6 | s6
        · obtain ⟨x4, m4, d1, d2, d3, d4, d5⟩ := read2 (F := f + 2) hcp8 hF 8 0 f f x2 m2 0 (by omega) (by omega) (by omega) s6 (by rw [s3 cp 0 (by unfold KNX; simp)]; exact xc) (by rw [s4 0 52 rfl]; exact m52) (fun i hi => by omega)
          exact ⟨x4, m4, d1, d2, frs_trans (KNX_R s3) d3, frs_trans (KQ_R (KN_Q s4)) d4, d5⟩
        · have hr : 1 ≤ x2 41 1 ∧ x2 41 1 ≤ 5 := ⟨s6.2.2.2.1, s6.2.2.2.2.1⟩
          obtain ⟨m3, c1, c2, c3, c4⟩ := rM_exit (F := f + 2) (n := f + 1) s6
          exact ⟨x2, m3, rX_exit hr, c1, KNX_R s3, frs_trans (KQ_R (KN_Q s4)) c2, .inr ⟨hr.1, hr.2, c3, c4⟩⟩
      have hQ0 : PQ (xP0 cp e sx) := fun _ => x2'
      have hQ2 : PQ x2 := PQ_step (F := f + 2) hQ0 x2 s1
      have hQ : PV id (l_Read_read_37 cp (f + 2) (fun s8 => some s8) (f + 2) x2 ((0 : Nat) : Int)) := PQ_loop hcp8 _ _ _ hQ2
      have fin := prizes_fin (sx := sx) (sm := sm) hF h0 hcp h10 h11 hk (x0 := xP0 cp e sx) (m0 := mP0 e sm) (fun c j q1 q2 => by
        unfold xP0; rw [put_c q2, put_c q1, put_c q1, put_c q1, put_c q1]) (fun c j q0 q4 q5 => by
        unfold mP0; rw [put_o (fun z => q0 (by rw [z.1, z.2]; rfl)), put_o (fun z => q0 (by rw [z.1, z.2]; rfl)), put_o (fun z => q0 (by rw [z.1, z.2]; rfl)), put_o q5, put_o (fun z => q0 (by rw [z.1, z.2]; rfl)), put_o (fun z => q4 (by rw [z.1, z.2]; rfl)), put_o (fun z => q0 (by rw [z.1, z.2]; rfl))]) m45 m00 hE hQ
      unfold f_H_prizes f_M_prizes
      have hXr : f_Read_read (f + 2) cp sx (e : Int) = l_Read_read_37 cp (f + 2) (fun s8 => some s8) (f + 2) x2 ((0 : Nat) : Int) := by
        unfold f_Read_read f_XJ_min
        simp only []
        rw [if_neg (show ¬ w32 300 < w32 (e : Int) by rw [show w32 300 = 300 by decide, wnat (by omega)]; omega)]
        simp only [Option.bind_some]
        rw [show f_Read_step (f + 2) (put (put (put (put (put sx 41 1 0) 41 2 (-1)) 41 4 (e : Int)) 41 7 0) cp 0 0) = some x2 from s1]
        rfl
      refine T_bind (T_eq hW (T_no (fun q => b01_0.mp q (by rw [t1]; exact c)) ?_))
      have e11 : (sx 0 11).toNat = cp := by rw [h11]; rfl
      rw [e11]
      refine T_gd (by unfold PRc; omega) ?_
      rw [hXr]
      refine T_mono fin (fun q1 hq => ?_)
      have n0 : ¬ w32 (e : Int) < 0 := by rw [wnat (by omega)]; omega
      refine T_no n0 (T_yes ?_ ?_)
      · show w32 (e : Int) ≤ w32 (sm 0 45)
        rw [ea, e45]; exact c.2
      · show T ((f_M_next (f + 2) (mP0 e sm)).bind fun q10 => l_M_prizes_57 (f + 2) (k92 (f + 2)) (f + 2) q10) _
        rw [s2]
        exact hq
    rcases hR with ⟨h10, h11, hk⟩ | ⟨h10, h11, hk⟩
    · exact mk2 (key (cp := 88) (kp := 80) (.inr ⟨rfl, rfl⟩) h10 h11 hk)
    · exact mk2 (key (cp := 80) (kp := 88) (.inl ⟨rfl, rfl⟩) h10 h11 hk)
  · refine mk2 (T_bind (T_eq hW (T_yes (b01_0.mpr (by rw [t1]; exact c)) (T_bind (T_some (T_some ?_))))))
    have sH : INV F (put sx 0 13 2) (put (put (put sm 0 1 0) 0 0 0) 0 0 2) := ⟨hB, hJ, hL, rfl, hM, hFr, ⟨⟨t1, t2, t3⟩, t4, t5, t6⟩, hR, hH, hP⟩
    by_cases c1 : a1 < 0
    · refine T_yes (by rw [ea]; exact c1) (T_bind (T_some (T_some ⟨rfl, sH⟩)))
    · refine T_no (by rw [ea]; exact c1) (T_no ?_ (T_bind (T_some (T_some ⟨rfl, sH⟩))))
      show ¬ w32 a1 ≤ w32 (sm 0 45)
      rw [ea, e45]
      omega
