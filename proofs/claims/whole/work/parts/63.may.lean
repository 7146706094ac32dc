theorem w32_andI (a b : Int) : w32 (andI a b) = andI a b := by
  unfold w32 andI
  rw [Int32.ofInt_toInt]
def mayP (sm : St) (j b : Nat) : Prop := andI (shrI (sm 5 j) (sm 1 b)) 1 = 1 ∧ ¬ sm 6 j = sm 3 b
def mayB (sm : St) (j b : Nat) : Bool := decide (andI (shrI (sm 5 j) (sm 1 b)) 1 = 1) && !decide (sm 6 j = sm 3 b)
theorem b01_of {c : Prop} [Decidable c] (h : c) : b01 c = 1 := if_pos h
theorem b01_not {c : Prop} [Decidable c] (h : ¬ c) : b01 c = 0 := if_neg h
theorem mayM_eq {sm : St} {j b : Nat} (hj : j < 12) (hb : b < 24) (h6 : i32 (sm 6 j)) (h3 : i32 (sm 3 b)) : f_M_mayOf sm j b = some (b01 (mayB sm j b = true), sm) := by
  unfold f_M_mayOf mayB
  have i1 : inb (j : Int) 12 := inb_id (by omega) (by omega) (by decide)
  have i2 : inb (b : Int) 24 := inb_id (by omega) (by omega) (by decide)
  have k1 : w32 1 = 1 := by decide
  have e6 : w32 (sm 6 j) = sm 6 j := wid h6.1 h6.2
  have e3 : w32 (sm 3 b) = sm 3 b := wid h3.1 h3.2
  rw [gd_yes i1, gd_yes i2, gd_yes i1, gd_yes i2, ix_nat (by omega), ix_nat (by omega), w32_andI, k1, e6, e3]
  by_cases c1 : andI (shrI (sm 5 j) (sm 1 b)) 1 = 1
  · rw [if_pos c1]
    by_cases c2 : sm 6 j = sm 3 b
    · rw [if_pos c2, b01_not (by simp [c1, c2])]
    · rw [if_neg c2, b01_of (by simp [c1, c2])]
  · rw [if_neg c1, b01_not (by simp [c1])]
theorem mayX_eq {sx sm : St} {j b : Nat} (hj : j < 12) (hb : b < 24) (q8 : sx 8 j = sm 5 j) (q2 : sx 2 b = sm 1 b) (q9 : sx 9 j = sm 6 j) (q4 : sx 4 b = sm 3 b) (h6 : i32 (sm 6 j)) (h3 : i32 (sm 3 b)) : f_Judges_isAllowed sx j b = some (b01 (mayB sm j b = true), sx) := by
  unfold f_Judges_isAllowed b_Judges_isAllowed_24 mayB
  have i1 : inb (j : Int) 12 := inb_id (by omega) (by omega) (by decide)
  have i2 : inb (b : Int) 24 := inb_id (by omega) (by omega) (by decide)
  have k1 : w32 1 = 1 := by decide
  have k0 : w32 0 = 0 := by decide
  have e6 : w32 (sm 6 j) = sm 6 j := wid h6.1 h6.2
  have e3 : w32 (sm 3 b) = sm 3 b := wid h3.1 h3.2
  rw [gd_yes i1, gd_yes i2, gd_yes i1, gd_yes i2, ix_nat (by omega), ix_nat (by omega), q8, q2, q9, q4, w32_andI, k1, k0, e6, e3]
  by_cases c1 : andI (shrI (sm 5 j) (sm 1 b)) 1 = 1
  · rw [if_pos c1, if_neg (by decide)]
    by_cases c2 : sm 6 j = sm 3 b
    · rw [if_pos c2, b01_not (by simp [c1, c2])]
    · rw [if_neg c2, b01_of (by simp [c1, c2])]
  · rw [if_neg c1, if_pos rfl, b01_not (by simp [c1])]
theorem may_ranges {sx sm : St} (hB : IB sx sm) (hJ : IJ sx sm) {j b : Nat} (hj : (j : Int) < sm 0 5) (hb : (b : Int) < sm 0 4) : j < 12 ∧ b < 24 ∧ sx 8 j = sm 5 j ∧ sx 2 b = sm 1 b ∧ sx 9 j = sm 6 j ∧ sx 4 b = sm 3 b ∧ i32 (sm 6 j) ∧ i32 (sm 3 b) := by
  have z1 := hB.2 b hb
  have z2 := hJ.2 j hj
  have z3 := hB.1
  have z4 := hJ.1
  unfold i32
  refine ⟨by omega, by omega, z2.1.1, z1.1.1, z2.2.1.1, z1.2.2.1.1, ⟨by omega, by omega⟩, by omega, by omega⟩
theorem s_may {F : Nat} : st_may F (INV F) := by
  intro sx sm h a1 a2 r1 r2
  obtain ⟨hB, hJ, hL, hS, hM, hF, hT, hR, hH, hP⟩ := h
  have j5 : i32 (sm 0 5) := by have := hJ.1; unfold i32; omega
  have j4 : i32 (sm 0 4) := by have := hB.1; unfold i32; omega
  have x7 : sx 7 0 = sm 0 5 := hJ.1.1
  have x1 : sx 1 0 = sm 0 4 := hB.1.1
  have sH : ∀ v : Int, INV F (put sx 0 13 v) (put (put (put sm 0 1 0) 0 0 0) 0 0 v) := fun v => ⟨hB, hJ, hL, rfl, hM, hF, hT, hR, hH, hP⟩
  refine mk2 (T_bind (T_eq (hasJ_eq r1 (by rw [x7]; exact j5)) ?_))
  by_cases c1 : 0 ≤ a1 ∧ a1 < sm 0 5
  · refine T_no (fun q => b01_0.mp q (by rw [x7]; exact c1)) (T_bind (T_eq (hasB_eq r2 (show i32 (sx 1 0) by rw [x1]; exact j4)) ?_))
    by_cases c2 : 0 ≤ a2 ∧ a2 < sm 0 4
    · obtain ⟨j, hj⟩ : ∃ n : Nat, a1 = n := ⟨a1.toNat, by omega⟩
      obtain ⟨b, hb⟩ : ∃ n : Nat, a2 = n := ⟨a2.toNat, by omega⟩
      subst hj hb
      obtain ⟨g1, g2, g3, g4, g5, g6, g7, g8⟩ := may_ranges hB hJ c1.2 c2.2
      refine T_no (fun q => b01_0.mp q (show 0 ≤ (b : Int) ∧ (b : Int) < sx 1 0 by rw [x1]; exact c2)) (T_bind (T_eq (mayX_eq g1 g2 g3 g4 g5 g6 g7 g8) ?_))
      have mm : ∀ {P : Int × St → Prop}, T (if w32 (b01 (mayB sm j b = true)) = 0 then some (0, put (put sm 0 1 0) 0 0 0) else some (1, put (put sm 0 1 0) 0 0 0)) P → T (f_M_may sm j b) P := fun p => T_bind (T_eq (isJ_eq r1 j5) (T_no (fun q => b01_0.mp q c1) (T_bind (T_eq (isB_eq r2 j4) (T_no (fun q => b01_0.mp q c2) (T_bind (T_eq (mayM_eq (sm := put (put sm 0 1 0) 0 0 0) g1 g2 g7 g8) p)))))))
      refine T_if (fun d => T_bind (T_some (T_some (mm (T_yes d (T_some ⟨rfl, ?_⟩))))) ) (fun d => T_bind (T_some (T_some (mm (T_no d (T_some ⟨rfl, ?_⟩))))))
      · exact ⟨hB, hJ, hL, rfl, hM, hF, hT, hR, hH, hP⟩
      · exact ⟨hB, hJ, hL, rfl, hM, hF, hT, hR, hH, hP⟩
    · refine T_yes (b01_0.mpr (show ¬ (0 ≤ a2 ∧ a2 < sx 1 0) by rw [x1]; exact c2)) (T_bind (T_some (T_some ?_)))
      exact T_bind (T_eq (isJ_eq r1 j5) (T_no (fun q => b01_0.mp q c1) (T_bind (T_eq (isB_eq r2 j4) (T_yes (b01_0.mpr c2) (T_bind (T_some (T_some ⟨rfl, sH 1⟩))))))))
  · refine T_yes (b01_0.mpr (by rw [x7]; exact c1)) (T_bind (T_some (T_some ?_)))
    exact T_bind (T_eq (isJ_eq r1 j5) (T_yes (b01_0.mpr c1) (T_bind (T_some (T_some ⟨rfl, sH 1⟩)))))
/-! feed -/
theorem w8_rng (a : Int) : -128 ≤ w8 a ∧ w8 a ≤ 127 := by
  unfold w8
  have h := fb_byte_rng (Int32.ofInt a)
  have e : (Int32.ofInt a).toInt8.toInt32.toInt = (Int32.ofInt a).toInt8.toInt := by simp
  rw [e] at h
  omega
theorem layM {F : Nat} {sm : St} {v : Int} {n : Nat} (hn : sm 0 45 = n) (h : n + 4 ≤ 300) (hF : 5 ≤ F) : f_M_lay F sm v = some (put (put (put (put (put (put (put (put sm 32 n (w8 (w8 (shrI v 24)))) 0 45 (n + 1)) 32 (n + 1) (w8 (w8 (shrI v 16)))) 0 45 (n + 2)) 32 (n + 2) (w8 (w8 (shrI v 8)))) 0 45 (n + 3)) 32 (n + 3) (w8 (w8 (shrI v 0)))) 0 45 (n + 4)) := by
  obtain ⟨f, rfl⟩ : ∃ f, F = f + 5 := ⟨F - 5, by omega⟩
  have step : ∀ (m : Nat) (s : St) (k : Nat) (x : Int) (sh : Int), s 0 45 = k → k < 300 → 0 ≤ x → x ≤ 3 → 8 * x = sh → l_M_lay_2 (f + 5) (fun s1 => some s1) (m + 1) s v x = l_M_lay_2 (f + 5) (fun s1 => some s1) m (put (put s 32 k (w8 (w8 (shrI v sh)))) 0 45 (k + 1)) v (x + -1) := by
    intro m s k x sh hk hlt h0 h3 hsh
    show b_M_lay_2 (f + 5) (l_M_lay_2 (f + 5) (fun s1 => some s1) m) (fun s1 => some s1) s v x = _
    unfold b_M_lay_2
    have e1 : w32 x = x := wid (by omega) (by omega)
    have i1 : inb (s 0 45) 300 := by rw [hk]; exact inb_id (by omega) (by omega) (by decide)
    rw [if_neg (by rw [e1]; omega), gd_yes i1]
    show l_M_lay_2 (f + 5) (fun s1 => some s1) m (put (put s 32 (ix (s 0 45)) (w8 (w8 (shrI v (8 * x))))) 0 45 ((put s 32 (ix (s 0 45)) (w8 (w8 (shrI v (8 * x))))) 0 45 + 1)) v (x + -1) = _
    rw [put_c (by decide), hk, ix_nat (by omega), hsh]
  unfold f_M_lay
  rw [step (f + 4) sm n 3 24 hn (by omega) (by decide) (by decide) rfl]
  rw [step (f + 3) _ (n + 1) (3 + -1) 16 (by rw [put_eq]; omega) (by omega) (by decide) (by decide) rfl]
  rw [step (f + 2) _ (n + 2) (3 + -1 + -1) 8 (by rw [put_eq]; omega) (by omega) (by decide) (by decide) rfl]
  rw [step (f + 1) _ (n + 3) (3 + -1 + -1 + -1) 0 (by rw [put_eq]; omega) (by omega) (by decide) (by decide) rfl]
  show b_M_lay_2 (f + 5) (l_M_lay_2 (f + 5) (fun s1 => some s1) f) (fun s1 => some s1) _ v (3 + -1 + -1 + -1 + -1) = _
  unfold b_M_lay_2
  rw [if_pos (by decide)]
  rfl
theorem takeX {F : Nat} {sx : St} {v : Int} {n : Nat} (hn : sx 41 0 = n) (h : n + 4 ≤ 300) (hF : 5 ≤ F) : f_Read_take F sx v = some (put (put (put (put (put (put (put (put sx 42 n (w8 (w8 (shrI v 24)))) 41 0 (n + 1)) 42 (n + 1) (w8 (w8 (shrI v 16)))) 41 0 (n + 2)) 42 (n + 2) (w8 (w8 (shrI v 8)))) 41 0 (n + 3)) 42 (n + 3) (w8 (w8 (shrI v 0)))) 41 0 (n + 4)) := by
  obtain ⟨f, rfl⟩ : ∃ f, F = f + 5 := ⟨F - 5, by omega⟩
  have step : ∀ (m : Nat) (s : St) (k : Nat) (x : Int), s 41 0 = k → k < 300 → 0 ≤ x → x ≤ 24 → l_Read_take_3 (f + 5) (fun s1 => some s1) (m + 1) s v x = l_Read_take_3 (f + 5) (fun s1 => some s1) m (put (put s 42 k (w8 (w8 (shrI v x)))) 41 0 (k + 1)) v (x + -8) := by
    intro m s k x hk hlt h0 h3
    show b_Read_take_3 (f + 5) (l_Read_take_3 (f + 5) (fun s1 => some s1) m) (fun s1 => some s1) s v x = _
    unfold b_Read_take_3
    have e1 : w32 x = x := wid (by omega) (by omega)
    have e2 : w32 300 = 300 := by decide
    have i1 : inb (s 41 0) 300 := by rw [hk]; exact inb_id (by omega) (by omega) (by decide)
    rw [if_neg (by rw [e1]; omega), if_neg (by rw [hk, e2, wnat (by omega)]; omega), gd_yes i1]
    show l_Read_take_3 (f + 5) (fun s1 => some s1) m (put (put s 42 (ix (s 41 0)) (w8 (w8 (shrI v x)))) 41 0 ((put s 42 (ix (s 41 0)) (w8 (w8 (shrI v x)))) 41 0 + 1)) v (x + -8) = _
    rw [put_c (by decide), hk, ix_nat (by omega)]
  unfold f_Read_take
  rw [step (f + 4) sx n 24 hn (by omega) (by decide) (by decide)]
  rw [step (f + 3) _ (n + 1) (24 + -8) (by rw [put_eq]; omega) (by omega) (by decide) (by decide)]
  rw [step (f + 2) _ (n + 2) (24 + -8 + -8) (by rw [put_eq]; omega) (by omega) (by decide) (by decide)]
  rw [step (f + 1) _ (n + 3) (24 + -8 + -8 + -8) (by rw [put_eq]; omega) (by omega) (by decide) (by decide)]
  show b_Read_take_3 (f + 5) (l_Read_take_3 (f + 5) (fun s1 => some s1) f) (fun s1 => some s1) _ v (24 + -8 + -8 + -8 + -8) = _
  unfold b_Read_take_3
  rw [if_pos (by decide)]
  rfl
def TAPE (n : Nat) (sx sm : St) : Prop := (sx 41 0 = n ∧ sm 0 45 = n) ∧ ∀ k : Nat, sx 42 k = sm 32 k ∧ -128 ≤ sm 32 k ∧ sm 32 k ≤ 127
def frF (sx sx2 sm sm2 : St) : Prop := (∀ c j, ¬ c = 42 → ¬ (c = 41 ∧ j = 0) → sx2 c j = sx c j) ∧ ∀ c j, ¬ c = 32 → ¬ (c = 0 ∧ j = 45) → sm2 c j = sm c j
theorem feed1 {F : Nat} {sx sm : St} {v : Int} {n : Nat} (h : TAPE n sx sm) (hn : n + 4 ≤ 300) (hF : 5 ≤ F) : ∃ sx2 sm2, f_Read_take F sx v = some sx2 ∧ f_M_lay F sm v = some sm2 ∧ TAPE (n + 4) sx2 sm2 ∧ frF sx sx2 sm sm2 := by
  refine ⟨_, _, takeX h.1.1 hn hF, layM h.1.2 hn hF, ⟨⟨?_, ?_⟩, ?_⟩, ?_, ?_⟩
  · rw [put_eq]; omega
  · rw [put_eq]; omega
  · intro k
    have hk := h.2 k
    have g1 := w8_rng (w8 (shrI v 24))
    have g2 := w8_rng (w8 (shrI v 16))
    have g3 := w8_rng (w8 (shrI v 8))
    have g4 := w8_rng (w8 (shrI v 0))
    simp only [put_at, put_c (show (42 : Nat) ≠ 41 by decide), put_c (show (32 : Nat) ≠ 0 by decide)]
    by_cases c3 : k = n + 3
    · simp only [if_pos c3]; exact ⟨trivial, by omega, by omega⟩
    · simp only [if_neg c3]
      by_cases c2 : k = n + 2
      · simp only [if_pos c2]; exact ⟨trivial, by omega, by omega⟩
      · simp only [if_neg c2]
        by_cases c1 : k = n + 1
        · simp only [if_pos c1]; exact ⟨trivial, by omega, by omega⟩
        · simp only [if_neg c1]
          by_cases c0 : k = n
          · simp only [if_pos c0]; exact ⟨trivial, by omega, by omega⟩
          · simp only [if_neg c0]; exact hk
  · intro c j h1 h2
    have p1 : ∀ (s : St) (i : Nat) (w : Int), put s 42 i w c j = s c j := fun s i w => put_c h1
    have p2 : ∀ (s : St) (w : Int), put s 41 0 w c j = s c j := fun s w => if_neg h2
    simp only [p1, p2]
  · intro c j h1 h2
    have p1 : ∀ (s : St) (i : Nat) (w : Int), put s 32 i w c j = s c j := fun s i w => put_c h1
    have p2 : ∀ (s : St) (w : Int), put s 0 45 w c j = s c j := fun s w => if_neg h2
    simp only [p1, p2]
theorem frF_trans {a b c a2 b2 c2 : St} (h1 : frF a b a2 b2) (h2 : frF b c b2 c2) : frF a c a2 c2 := ⟨fun x j q1 q2 => (h2.1 x j q1 q2).trans (h1.1 x j q1 q2), fun x j q1 q2 => (h2.2 x j q1 q2).trans (h1.2 x j q1 q2)⟩
theorem s_feed {F : Nat} (hF : 5 ≤ F) : st_feed F (INV F) := by
  intro sx sm h a1 a2 a3 a4 a5 r1 r2 r3 r4 r5
  obtain ⟨hB, hJ, hL, hS, hM, hFr, hT, hR, hH, hP⟩ := h
  have k300 : w32 300 = 300 := by decide
  obtain ⟨⟨t1, t2, t3⟩, t4, t5, t6⟩ := hT
  obtain ⟨n, hn⟩ : ∃ n : Nat, sm 0 45 = n := ⟨(sm 0 45).toNat, by omega⟩
  have e1 : w32 (sx 41 0 + 20) = n + 20 := by rw [t1, hn]; exact wid (by omega) (by omega)
  have e2 : w32 (sm 0 45 + 20) = n + 20 := by rw [hn]; exact wid (by omega) (by omega)
  by_cases c : n + 20 ≤ 300
  · have T0 : TAPE n sx (put sm 0 1 0) := ⟨⟨by rw [t1, hn], hn⟩, t6⟩
    obtain ⟨x1, m1, fx1, fm1, T1, R1⟩ := feed1 (F := F) (v := a1) T0 (by omega) hF
    obtain ⟨x2, m2, fx2, fm2, T2, R2⟩ := feed1 (F := F) (v := a2) T1 (by omega) hF
    obtain ⟨x3, m3, fx3, fm3, T3, R3⟩ := feed1 (F := F) (v := a3) T2 (by omega) hF
    obtain ⟨x4, m4, fx4, fm4, T4, R4⟩ := feed1 (F := F) (v := a4) T3 (by omega) hF
    obtain ⟨x5, m5, fx5, fm5, T5, R5⟩ := feed1 (F := F) (v := a5) T4 (by omega) hF
    have R := frF_trans (frF_trans (frF_trans (frF_trans R1 R2) R3) R4) R5
    refine mk2 (T_yes (by rw [e1, k300]; omega) (T_bind (T_eq fx1 (T_bind (T_eq fx2 (T_bind (T_eq fx3 (T_bind (T_eq fx4 (T_bind (T_eq fx5 (T_some ?_))))))))))))
    refine T_yes (show w32 (sm 0 45 + 20) ≤ w32 300 by rw [e2, k300]; omega) (T_bind (T_eq fm1 (T_bind (T_eq fm2 (T_bind (T_eq fm3 (T_bind (T_eq fm4 (T_bind (T_eq fm5 (T_some ?_)))))))))))
    have e : x5 41 0 = m5 0 45 := by rw [T5.1.1, T5.1.2]
    have X : ∀ c j, ¬ c = 42 → ¬ (c = 41 ∧ j = 0) → x5 c j = sx c j := R.1
    have M : ∀ c j, ¬ c = 32 → ¬ (c = 0 ∧ j = 45) → ¬ (c = 0 ∧ j = 1) → m5 c j = sm c j := fun c j q1 q2 q3 => (R.2 c j q1 q2).trans (if_neg q3)
    have X7 : ∀ c j, gX c j ≠ 7 → x5 c j = sx c j := fun c j q => X c j (fun z => q (by rw [z]; rfl)) (fun z => q (by rw [z.1, z.2]; rfl))
    have M7 : ∀ c j, gM c j ≠ 0 → gM c j ≠ 7 → m5 c j = sm c j := fun c j q q2 => M c j (fun z => q2 (by rw [z]; rfl)) (fun z => q2 (by rw [z.1, z.2]; rfl)) (fun z => q (by rw [z.1, z.2]; rfl))
    refine ⟨congrArg w32 e, IB_cong (fun c j q => X7 c j (by omega)) (fun c j q => M7 c j (by omega) (by omega)) hB, IJ_cong (fun c j q => X7 c j (by omega)) (fun c j q => M7 c j (by omega) (by omega)) hJ, IL_cong (fun c j q => X7 c j (by omega)) (fun c j q => M7 c j (by omega) (by omega)) hL, IS_cong (fun c j q => X7 c j (by omega)) (fun c j q => M7 c j (by omega) (by omega)) hS, IM_cong (M7 _ _ (by decide) (by decide)) (M7 _ _ (by decide) (by decide)) (fun c j q => X7 c j (by omega)) (fun c j q => M7 c j (by omega) (by omega)) hM, IF_cong (fun c j q => X7 c j (by omega)) (fun c j q => M7 c j (by omega) (by omega)) hFr, ?_, IR_cong (fun c j q => X7 c j (by omega)) (fun c j q => M7 c j (by omega) (by omega)) hR, IH_cong (fun c j q => X7 c j (by omega)) (fun c j q => M7 c j (by omega) (by omega)) hH, IP_cong (fun c j q => X7 c j (by omega)) (fun c j q => M7 c j (by omega) (by omega)) hP⟩
    have z := T5.1.2
    refine ⟨⟨e, show 0 ≤ m5 0 45 by omega, show m5 0 45 ≤ 300 by omega⟩, ?_, ?_, T5.2⟩
    · show x5 41 1 = m5 0 47
      rw [X 41 1 (by decide) (by decide), M 0 47 (by decide) (by decide) (by decide)]; exact t4
    · show x5 41 2 = m5 0 48
      rw [X 41 2 (by decide) (by decide), M 0 48 (by decide) (by decide) (by decide)]; exact t5
  · refine mk2 (T_no (by rw [e1, k300]; omega) (T_some (T_no (show ¬ w32 (sm 0 45 + 20) ≤ w32 300 by rw [e2, k300]; omega) (T_some ⟨rfl, hB, hJ, hL, hS, hM, hFr, ⟨⟨t1, t2, t3⟩, t4, t5, t6⟩, hR, hH, hP⟩))))
