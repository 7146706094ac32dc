def nN (a : Int) : Nat := a.toNat
theorem allowed_loop {F : Nat} {sx sm : St} (hB : IB sx sm) (hJ : IJ sx sm) {b : Nat} (hb : (b : Int) < sm 0 4) : ∀ (d j n : Nat) (v : Int), (j : Int) + d = sm 0 5 → d < n → (∀ k, k < 32 → bt v k = (decide (k < j) && mayB sm k b)) → ∃ v2, l_Judges_allowedFor_5 F (fun s1 x3_2 => some (x3_2, s1)) n sx b v j = some (v2, sx) ∧ ∀ k, k < 32 → bt v2 k = (decide ((k : Int) < sm 0 5) && mayB sm k b) := by
  intro d
  have x7 : sx 7 0 = sm 0 5 := hJ.1.1
  have z4 := hJ.1
  induction d with
  | zero =>
    intro j n v hj hn hv
    obtain ⟨m, rfl⟩ : ∃ m, n = m + 1 := ⟨n - 1, by omega⟩
    refine ⟨v, ?_, ?_⟩
    · show b_Judges_allowedFor_5 F (l_Judges_allowedFor_5 F (fun s1 x3_2 => some (x3_2, s1)) m) (fun s1 x3_2 => some (x3_2, s1)) sx b v j = _
      unfold b_Judges_allowedFor_5
      rw [x7, wid (by omega) (by omega), wnat (by omega), if_pos (by omega)]
    · intro k hk
      rw [hv k hk]
      have : decide (k < j) = decide ((k : Int) < sm 0 5) := by
        apply decide_eq_decide.mpr
        omega
      rw [this]
  | succ d ih =>
    intro j n v hj hn hv
    obtain ⟨m, rfl⟩ : ∃ m, n = m + 1 := ⟨n - 1, by omega⟩
    obtain ⟨g1, g2, g3, g4, g5, g6, g7, g8⟩ := may_ranges hB hJ (j := j) (b := b) (by omega) hb
    show ∃ v2, b_Judges_allowedFor_5 F (l_Judges_allowedFor_5 F (fun s1 x3_2 => some (x3_2, s1)) m) (fun s1 x3_2 => some (x3_2, s1)) sx b v j = some (v2, sx) ∧ _
    unfold b_Judges_allowedFor_5
    rw [x7, wid (a := sm 0 5) (by omega) (by omega), wnat (k := j) (by omega), if_neg (by omega), mayX_eq g1 g2 g3 g4 g5 g6 g7 g8]
    show ∃ v2, (if w32 (b01 (mayB sm j b = true)) = 0 then l_Judges_allowedFor_5 F (fun s1 x3_2 => some (x3_2, s1)) m sx b v ((j : Int) + 1) else l_Judges_allowedFor_5 F (fun s1 x3_2 => some (x3_2, s1)) m sx b (orI v (shlI 1 j)) ((j : Int) + 1)) = some (v2, sx) ∧ _
    rw [show (j : Int) + 1 = ((j + 1 : Nat) : Int) by omega]
    by_cases c : mayB sm j b = true
    · rw [if_neg (fun q => b01_0.mp q c)]
      refine ih (j + 1) m _ (by omega) (by omega) (fun k hk => ?_)
      rw [bt_or, hv k hk, bt_bit (by omega) hk]
      by_cases e : k = j
      · subst e; simp [c]
      · simp only [e, decide_false, Bool.or_false]
        have : decide (k < j) = decide (k < j + 1) := decide_eq_decide.mpr (by omega)
        rw [this]
    · rw [if_pos (b01_0.mpr c)]
      refine ih (j + 1) m _ (by omega) (by omega) (fun k hk => ?_)
      rw [hv k hk]
      by_cases e : k = j
      · subst e; simp [c]
      · have : decide (k < j) = decide (k < j + 1) := decide_eq_decide.mpr (by omega)
        rw [this]
theorem allowedX {F : Nat} (hF : 13 ≤ F) {sx sm : St} (hB : IB sx sm) (hJ : IJ sx sm) {b : Nat} (hb : (b : Int) < sm 0 4) : ∃ v, f_Judges_allowedFor F sx b = some (v, sx) ∧ ∀ k, k < 32 → bt v k = (decide ((k : Int) < sm 0 5) && mayB sm k b) := by
  have z4 := hJ.1
  refine allowed_loop hB hJ hb (sm 0 5).toNat 0 F 0 (by omega) (by omega) (fun k _ => ?_)
  rw [bt_0]
  simp
theorem toldM_loop {F : Nat} {sm : St} (hr : 0 ≤ sm 0 5 ∧ sm 0 5 ≤ 12) (h6 : ∀ j : Nat, (j : Int) < sm 0 5 → i32 (sm 6 j)) {b : Nat} (hb : b < 24) (h3 : i32 (sm 3 b)) : ∀ (d j n : Nat), (j : Int) + d = sm 0 5 → d < n → l_M_told_112 F (fun s7 x3_8 => some (x3_8, s7)) n sm b ((fb_ct (fun k => mayB sm k b) j : Nat) : Int) j = some (((fb_ct (fun k => mayB sm k b) (sm 0 5).toNat : Nat) : Int), sm) := by
  intro d
  induction d with
  | zero =>
    intro j n hj hn
    obtain ⟨m, rfl⟩ : ∃ m, n = m + 1 := ⟨n - 1, by omega⟩
    show b_M_told_112 F (l_M_told_112 F (fun s7 x3_8 => some (x3_8, s7)) m) (fun s7 x3_8 => some (x3_8, s7)) sm b _ j = _
    unfold b_M_told_112
    rw [wid (by omega) (by omega), wnat (by omega), if_pos (by omega), show (sm 0 5).toNat = j by omega]
  | succ d ih =>
    intro j n hj hn
    obtain ⟨m, rfl⟩ : ∃ m, n = m + 1 := ⟨n - 1, by omega⟩
    show b_M_told_112 F (l_M_told_112 F (fun s7 x3_8 => some (x3_8, s7)) m) (fun s7 x3_8 => some (x3_8, s7)) sm b _ j = _
    unfold b_M_told_112
    rw [wid (a := sm 0 5) (by omega) (by omega), wnat (k := j) (by omega), if_neg (by omega), mayM_eq (by omega) hb (h6 j (by omega)) h3]
    show (if w32 (b01 (mayB sm j b = true)) = 0 then l_M_told_112 F (fun s7 x3_8 => some (x3_8, s7)) m sm b (((fb_ct (fun k => mayB sm k b) j : Nat) : Int) + 0) ((j : Int) + 1) else l_M_told_112 F (fun s7 x3_8 => some (x3_8, s7)) m sm b (((fb_ct (fun k => mayB sm k b) j : Nat) : Int) + 1) ((j : Int) + 1)) = _
    have h := ih (j + 1) m (by omega) (by omega)
    rw [show (j : Int) + 1 = ((j + 1 : Nat) : Int) by omega]
    rw [fb_ct_succ] at h
    by_cases c : mayB sm j b = true
    · rw [if_neg (fun q => b01_0.mp q c)]
      rw [if_pos c] at h
      exact h
    · rw [if_pos (b01_0.mpr c)]
      rw [if_neg c] at h
      exact h
theorem ct_cut {p : Nat → Bool} {n m : Nat} (h : n ≤ m) : fb_ct (fun k => decide (k < n) && p k) m = fb_ct p n := by
  obtain ⟨d, rfl⟩ : ∃ d, m = n + d := ⟨m - n, by omega⟩
  rw [fb_ct_split]
  have e1 : fb_ct (fun k => decide (k < n) && p k) n = fb_ct p n := fb_ct_cong (fun k hk => by simp [hk])
  have e2 : fb_ct (fun k => decide (n + k < n) && p (n + k)) d = 0 := fb_ct_zero.mpr (fun k _ => by rw [show decide (n + k < n) = false from decide_eq_false (by omega)]; rfl)
  rw [e1, e2, Nat.add_zero]
theorem s_told {F : Nat} (hFu : 13 ≤ F) : st_told F (INV F) := by
  intro sx sm h a1 a2 r1 r2
  have h0 := h
  obtain ⟨hB, hJ, hL, hS, hM, hF, hT, hR, hH, hP⟩ := h
  have j4 : i32 (sm 0 4) := by have := hB.1; unfold i32; omega
  have x1 : sx 1 0 = sm 0 4 := hB.1.1
  have e2 : w32 a2 = a2 := wid r2.1 r2.2
  have k5 : w32 5 = 5 := by decide
  have b3 := hB.1
  have z4 := hJ.1
  have sH : ∀ v : Int, INV F (put sx 0 13 v) (put (put (put sm 0 1 0) 0 0 0) 0 0 v) := fun v => ⟨hB, hJ, hL, rfl, hM, hF, hT, hR, hH, hP⟩
  have sG : INV F (put sx 0 13 0) (put (put sm 0 1 0) 0 0 0) := ⟨hB, hJ, hL, rfl, hM, hF, hT, hR, hH, hP⟩
  refine mk2 (T_bind (T_eq (hasB_eq r1 (by rw [x1]; exact j4)) ?_))
  by_cases c1 : 0 ≤ a1 ∧ a1 < sm 0 4
  · obtain ⟨b, hb⟩ : ∃ n : Nat, a1 = n := ⟨a1.toNat, by omega⟩
    subst hb
    have z1 := hB.2 b c1.2
    have ib : inb (b : Int) 24 := inb_id (by omega) (by omega) (by decide)
    have ixb : ix (b : Int) = b := ix_nat (by omega)
    have mm : ∀ {P : Int × St → Prop}, T (if w32 a2 = 0 then gd (inb b 24) (some ((put (put sm 0 1 0) 0 0 0) 1 (ix b), put (put sm 0 1 0) 0 0 0)) else if w32 a2 = 1 then gd (inb b 24) (some ((put (put sm 0 1 0) 0 0 0) 2 (ix b), put (put sm 0 1 0) 0 0 0)) else if w32 a2 = 2 then gd (inb b 24) (some ((put (put sm 0 1 0) 0 0 0) 3 (ix b), put (put sm 0 1 0) 0 0 0)) else if w32 a2 = 3 then gd (inb b 24) (some ((put (put sm 0 1 0) 0 0 0) 4 (ix b), put (put sm 0 1 0) 0 0 0)) else if w32 a2 = 4 then gd (inb b 24) (if w32 ((put (put sm 0 1 0) 0 0 0) 8 (ix b)) = 0 then some (0, put (put sm 0 1 0) 0 0 0) else some (1, put (put sm 0 1 0) 0 0 0)) else if w32 a2 = 5 then l_M_told_112 F (fun s7 x3_8 => some (x3_8, s7)) F (put (put sm 0 1 0) 0 0 0) b 0 0 else (f_M_refuse (put (put sm 0 1 0) 0 0 0) 2).bind fun q6 => some (q6.1, q6.2)) P → T (f_M_told F sm b a2) P := fun p => T_bind (T_eq (isB_eq r1 j4) (T_no (fun q => b01_0.mp q c1) p))
    refine T_no (fun q => b01_0.mp q (by rw [x1]; exact c1)) (T_bind (T_eq (within_eq r2 (by unfold i32; decide) (by unfold i32; decide)) ?_))
    by_cases c2 : 0 ≤ a2 ∧ a2 ≤ 5
    · refine T_no (fun q => b01_0.mp q c2) ?_
      by_cases c5 : a2 = 5
      · obtain ⟨v, hv1, hv2⟩ := allowedX hFu hB hJ c1.2
        refine T_yes (by rw [e2, k5]; exact c5) (T_bind (T_eq hv1 (T_bind (T_eq (bitCount_eq sx v) (T_bind (T_some (T_some (mm ?_))))))))
        refine T_no (by omega) (T_no (by omega) (T_no (by omega) (T_no (by omega) (T_no (by omega) (T_yes (by omega) ?_)))))
        have lm := toldM_loop (F := F) (sm := put (put sm 0 1 0) 0 0 0) (b := b) z4.2 (fun j hj => (may_ranges hB hJ (j := j) (b := b) hj c1.2).2.2.2.2.2.2.1) (by omega) (show i32 (sm 3 b) from ⟨by omega, by omega⟩) (sm 0 5).toNat 0 F (by show ((0 : Nat) : Int) + (((sm 0 5).toNat : Nat) : Int) = sm 0 5; omega) (by omega)
        refine T_eq lm ⟨?_, sG⟩
        have e : fb_ct (bt v) 32 = fb_ct (fun k => mayB sm k b) (sm 0 5).toNat := by
          rw [← ct_cut (show (sm 0 5).toNat ≤ 32 by omega)]
          refine fb_ct_cong (fun k hk => ?_)
          rw [hv2 k hk]
          have : decide ((k : Int) < sm 0 5) = decide (k < (sm 0 5).toNat) := decide_eq_decide.mpr (by omega)
          rw [this]
        exact congrArg w32 (congrArg Int.ofNat e)
      · refine T_no (by omega) ?_
        rcases (show a2 = 0 ∨ a2 = 1 ∨ a2 = 2 ∨ a2 = 3 ∨ a2 = 4 by omega) with q | q | q | q | q
        · refine T_bind (T_yes (by omega) (T_gd ib (T_some (T_bind (T_some (T_some (mm (T_yes (by omega) (T_gd ib (T_some ⟨?_, sG⟩))))))))))
          exact congrArg w32 (by rw [ixb]; exact z1.1.1)
        · refine T_bind (T_no (by omega) (T_yes (by omega) (T_gd ib (T_some (T_bind (T_some (T_some (mm (T_no (by omega) (T_yes (by omega) (T_gd ib (T_some ⟨?_, sG⟩))))))))))))
          exact congrArg w32 (by rw [ixb]; exact z1.2.1.1)
        · refine T_bind (T_no (by omega) (T_no (by omega) (T_yes (by omega) (T_gd ib (T_some (T_bind (T_some (T_some (mm (T_no (by omega) (T_no (by omega) (T_yes (by omega) (T_gd ib (T_some ⟨?_, sG⟩))))))))))))))
          exact congrArg w32 (by rw [ixb]; exact z1.2.2.1.1)
        · refine T_bind (T_no (by omega) (T_no (by omega) (T_no (by omega) (T_yes (by omega) (T_gd ib (T_some (T_bind (T_some (T_some (mm (T_no (by omega) (T_no (by omega) (T_no (by omega) (T_yes (by omega) (T_gd ib (T_some ⟨?_, sG⟩))))))))))))))))
          exact congrArg w32 (by rw [ixb]; exact z1.2.2.2.1.1)
        · refine T_bind (T_no (by omega) (T_no (by omega) (T_no (by omega) (T_no (by omega) (T_gd ib (T_some (T_bind (T_some (T_some (mm (T_no (by omega) (T_no (by omega) (T_no (by omega) (T_no (by omega) (T_yes (by omega) (T_gd ib ?_))))))))))))))))
          have w1 : sx 6 b = sm 8 b := z1.2.2.2.2.1
          have w2 := z1.2.2.2.2.2
          have e8 : w32 (sm 8 b) = sm 8 b := wid (by omega) (by omega)
          have k0 : w32 0 = 0 := by decide
          have k1 : w32 1 = 1 := by decide
          refine T_if (fun d => T_some ⟨?_, sG⟩) (fun d => T_some ⟨?_, sG⟩)
          · have d : w32 (sm 8 (ix b)) = 0 := d
            show w32 (sx 6 (ix b)) = w32 0
            rw [ixb] at *
            rw [w1]
            omega
          · have d : ¬ w32 (sm 8 (ix b)) = 0 := d
            show w32 (sx 6 (ix b)) = w32 1
            rw [ixb] at *
            rw [w1]
            omega
    · refine T_yes (b01_0.mpr c2) (T_bind (T_some (T_some (mm ?_))))
      exact T_no (by omega) (T_no (by omega) (T_no (by omega) (T_no (by omega) (T_no (by omega) (T_no (by omega) (T_bind (T_some (T_some ⟨rfl, sH 2⟩))))))))
  · refine T_yes (b01_0.mpr (by rw [x1]; exact c1)) (T_bind (T_some (T_some ?_)))
    exact T_bind (T_eq (isB_eq r1 j4) (T_yes (b01_0.mpr c1) (T_bind (T_some (T_some ⟨rfl, sH 1⟩)))))
