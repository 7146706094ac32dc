theorem word2 {F e : Nat} {tp : Nat → Int} {p : Nat} {sx sm : St} (h : SYN e tp p sx sm) {cs n : Nat} (hcs : 1000 ≤ cs ∧ cs < 1007) (hn : n = lnf cs) (hF : 20 ≤ F) : ∃ b : Bool, f_Read_isWord F cs sx = some (b01 (b = true), sx) ∧ f_M_isWord sm (wdc (chf cs) 0 n) = some (b01 (b = true), sm) ∧ (b = true → sm 0 81 = 1) := by
  obtain ⟨a, r, h1, h2, h3, h4, h5, h6, h7⟩ := syn_hand h
  have he := h.1.1
  have non : ¬ sx 41 5 = 1 → (0 ≤ sx 41 5 ∧ sx 41 5 ≤ 3) → ¬ sm 0 81 = 1 → (0 ≤ sm 0 81 ∧ sm 0 81 ≤ 4) → ∃ b : Bool, f_Read_isWord F cs sx = some (b01 (b = true), sx) ∧ f_M_isWord sm (wdc (chf cs) 0 n) = some (b01 (b = true), sm) ∧ (b = true → sm 0 81 = 1) := by
    intro a1 a2 a3 a4
    exact ⟨false, wordX_no a1 a2, wordM_no a3 a4, fun q => absurd q Bool.false_ne_true⟩
  rcases h7 with ⟨q1, q2⟩ | ⟨q1, q2, q3, q4⟩ | ⟨q1, q2, _⟩ | ⟨q1, q2⟩
  · exact non (by rw [q2]; decide) (by rw [q2]; decide) (by rw [q1]; decide) (by rw [q1]; decide)
  · exact ⟨kwB tp a r cs, wordX_eq hcs h5 (by omega) h.1.2.2.1 h.1.2.2.2 q2 h2 h4 hF, wordM_eq hcs hn h5 (by omega) q3 q1 q4, fun _ => q1⟩
  · exact non (by rw [q2]; decide) (by rw [q2]; decide) (by rw [q1]; decide) (by rw [q1]; decide)
  · exact non (by rw [q2]; decide) (by rw [q2]; decide) (by rw [q1]; decide) (by rw [q1]; decide)
theorem wish2 {F e : Nat} {tp : Nat → Int} {p : Nat} {sx sm : St} (h : SYN e tp p sx sm) (hF : 20 ≤ F) : ∃ w : Int, f_Read_wishInHand F sx = some (w, sx) ∧ f_M_wishOf sm = some (w, sm) ∧ -1 ≤ w ∧ w ≤ 3 := by
  unfold f_Read_wishInHand f_M_wishOf
  obtain ⟨b1, x1, m1, _⟩ := word2 (F := F) h (cs := 1001) (n := 5) (by omega) rfl hF
  obtain ⟨b2, x2, m2, _⟩ := word2 (F := F) h (cs := 1002) (n := 3) (by omega) rfl hF
  obtain ⟨b3, x3, m3, _⟩ := word2 (F := F) h (cs := 1003) (n := 6) (by omega) rfl hF
  obtain ⟨b4, x4, m4, _⟩ := word2 (F := F) h (cs := 1004) (n := 4) (by omega) rfl hF
  rw [x1, sp_field]
  simp only [Option.bind_some]
  rw [m1]
  simp only [Option.bind_some]
  by_cases c1 : b1 = true
  · rw [if_neg (fun q => b01_0.mp q c1), if_neg (fun q => b01_0.mp q c1)]; exact ⟨0, rfl, rfl, by decide, by decide⟩
  · rw [if_pos (b01_0.mpr c1), if_pos (b01_0.mpr c1), x2, sp_age]
    simp only [Option.bind_some]
    rw [m2]
    simp only [Option.bind_some]
    by_cases c2 : b2 = true
    · rw [if_neg (fun q => b01_0.mp q c2), if_neg (fun q => b01_0.mp q c2)]; exact ⟨1, rfl, rfl, by decide, by decide⟩
    · rw [if_pos (b01_0.mpr c2), if_pos (b01_0.mpr c2), x3, sp_school]
      simp only [Option.bind_some]
      rw [m3]
      simp only [Option.bind_some]
      by_cases c3 : b3 = true
      · rw [if_neg (fun q => b01_0.mp q c3), if_neg (fun q => b01_0.mp q c3)]; exact ⟨2, rfl, rfl, by decide, by decide⟩
      · rw [if_pos (b01_0.mpr c3), if_pos (b01_0.mpr c3), x4, sp_seen]
        simp only [Option.bind_some]
        rw [m4]
        simp only [Option.bind_some]
        by_cases c4 : b4 = true
        · rw [if_neg (fun q => b01_0.mp q c4), if_neg (fun q => b01_0.mp q c4)]; exact ⟨3, rfl, rfl, by decide, by decide⟩
        · rw [if_pos (b01_0.mpr c4), if_pos (b01_0.mpr c4)]; exact ⟨-1, rfl, rfl, by decide, by decide⟩
def KQ (c j : Nat) : Bool := c == 0 && (j == 49 || j == 50 || j == 81 || j == 82 || j == 83 || j == 84 || j == 85)
theorem KN_Q {s t : St} (h : frs KN s t) : frs KQ s t := frs_sub h (fun c j e => by
  unfold KN at e; unfold KQ
  simp only [Bool.and_eq_true, Bool.or_eq_true, beq_iff_eq] at e ⊢
  omega)
theorem MTP_Q {e : Nat} {tp : Nat → Int} {s t : St} (h : MTP e tp s) (f : frs KQ s t) : MTP e tp t := by
  obtain ⟨h1, h2, h3, h4⟩ := h
  exact ⟨h1, by rw [f 0 46 rfl]; exact h2, fun k => by rw [f 32 k rfl]; exact h3 k, h4⟩
/-- a fault that both tell of the token in hand -/
theorem flt_mk {e : Nat} {tp : Nat → Int} {p : Nat} {sx sm : St} (h : SYN e tp p sx sm) {k : Int} (hk : 1 ≤ k ∧ k ≤ 5) : f_Read_blame sx k = some (put (put sx 41 1 k) 41 2 (sx 41 6)) ∧ FLT e tp (put (put sx 41 1 k) 41 2 (sx 41 6)) (put (put sm 0 49 k) 0 50 (sm 0 82)) := by
  obtain ⟨a, r, hh⟩ := syn_hand h
  have hw := hand_wf h.1.1 hh
  refine ⟨?_, XTP_fr h.1 (frs_put (frs_put (frs_refl _ _) rfl) rfl), MTP_Q h.2.1 (frs_put (frs_put (frs_refl _ _) rfl) rfl), hw, hk.1, hk.2, .inl ⟨rfl, ?_⟩⟩
  · unfold f_Read_blame
    rw [if_pos (by rw [h.2.2.2.2.1]; decide)]
    rfl
  · show sm 0 82 = sx 41 6
    rw [hh.1, hh.2.1]
theorem NM_rng {tp : Nat → Int} {a : Nat} : ∀ n, n ≤ 3 → (∀ i, i < n → isDg (tp (a + i)) = true) → 0 ≤ NM tp a n ∧ NM tp a n ≤ 999 ∧ (n ≤ 2 → NM tp a n ≤ 99) ∧ (n ≤ 1 → NM tp a n ≤ 9) ∧ (n = 0 → NM tp a n = 0)
  | 0, _, _ => by
    have e : NM tp a 0 = 0 := rfl
    rw [e]
    omega
  | n + 1, h, hl => by
    have ih := NM_rng (tp := tp) (a := a) n (by omega) (fun i hi => hl i (by omega))
    have z := dg_rng (hl n (by omega))
    have e : NM tp a (n + 1) = if n < 3 then 10 * NM tp a n + tp (a + n) - 48 else NM tp a n := rfl
    rw [e, if_pos (by omega)]
    have h3 : n = 0 ∨ n = 1 ∨ n = 2 := by omega
    rcases h3 with h3 | h3 | h3
    · have := ih.2.2.2.2 h3; omega
    · have := ih.2.2.2.1 (by omega); omega
    · have := ih.2.2.1 (by omega); omega
/-- a number is taken, or both meet the same fault -/
theorem num2 {F e : Nat} {tp : Nat → Int} {p : Nat} {sx sm : St} (h : SYN e tp p sx sm) {lo hi : Int} (hlo : 0 ≤ lo ∧ lo ≤ hi ∧ hi ≤ 24) (hF : 310 ≤ F) : ∃ vx vm x2 m2, f_Read_takeNumber F sx lo hi = some (vx, x2) ∧ f_M_numberOf F sm lo hi = some (vm, m2) ∧ frs KNX sx x2 ∧ frs KQ sm m2 ∧ ((∃ p2, SYN e tp p2 x2 m2 ∧ vx = vm ∧ lo ≤ vm ∧ vm ≤ hi) ∨ FLT e tp x2 m2) := by
  have h0 := h
  obtain ⟨a, r, hh⟩ := syn_hand h
  have hh0 := hh
  obtain ⟨h1, h2, h3, h4, h5, h6, h7⟩ := hh
  obtain ⟨g1, g2, g3, g4, g5, g6, g7⟩ := h
  have he := g1.1
  have bad : ¬ sx 41 5 = 2 → (0 ≤ sx 41 5 ∧ sx 41 5 ≤ 3) → ¬ sm 0 81 = 2 → (0 ≤ sm 0 81 ∧ sm 0 81 ≤ 3) → ∃ vx vm x2 m2, f_Read_takeNumber F sx lo hi = some (vx, x2) ∧ f_M_numberOf F sm lo hi = some (vm, m2) ∧ frs KNX sx x2 ∧ frs KQ sm m2 ∧ ((∃ p2, SYN e tp p2 x2 m2 ∧ vx = vm ∧ lo ≤ vm ∧ vm ≤ hi) ∨ FLT e tp x2 m2) := by
    intro a1 a2 a3 a4
    obtain ⟨b1, b2⟩ := flt_mk h0 (k := 2) (by decide)
    refine ⟨0, lo, _, _, ?_, ?_, frs_put (frs_put (frs_refl _ _) rfl) rfl, frs_put (frs_put (frs_refl _ _) rfl) rfl, .inr b2⟩
    · unfold f_Read_takeNumber b_Read_takeNumber_69
      rw [if_neg (by rw [wid (a := sx 41 5) (by omega) (by omega), show w32 2 = 2 by decide]; exact a1), b1]
      simp only [Option.bind_some]
      rw [f_step (x := put (put sx 41 1 2) 41 2 (sx 41 6)) (by show (1 : Int) ≤ 2 ∧ (2 : Int) ≤ 5; decide)]
      rfl
    · unfold f_M_numberOf
      rw [if_neg (by rw [wid (a := sm 0 81) (by omega) (by omega), show w32 2 = 2 by decide]; exact a3), wrong_eq g6 (by omega), if_neg (by omega)]
      rfl
  rcases h7 with ⟨q1, q2⟩ | ⟨q1, q2, _⟩ | ⟨q1, q2, q3, q4, q5⟩ | ⟨q1, q2⟩
  · exact bad (by rw [q2]; decide) (by rw [q2]; decide) (by rw [q1]; decide) (by rw [q1]; decide)
  · exact bad (by rw [q2]; decide) (by rw [q2]; decide) (by rw [q1]; decide) (by rw [q1]; decide)
  · have rg := NM_rng (tp := tp) (a := a) (r - a) q3 (fun i hi => q4 (a + i) (by omega) (by omega))
    have hX : ∀ y : St, XTP e tp y → True := fun _ _ => trivial
    have wN : w32 (sm 0 84) = sm 0 84 := by rw [q5]; exact wid (by omega) (by omega)
    have wl : w32 lo = lo := wid (by omega) (by omega)
    have wh : w32 hi = hi := wid (by omega) (by omega)
    have eX : f_Read_takeNumber F sx lo hi = if lo ≤ sm 0 84 ∧ sm 0 84 ≤ hi then (f_Read_step F sx).bind fun q1 => some (sm 0 84, q1) else (f_Read_blame sx 4).bind fun q9 => (f_Read_step F q9).bind fun q1 => some (sm 0 84, q1) := by
      unfold f_Read_takeNumber b_Read_takeNumber_69
      rw [if_pos (by rw [q2]), h2]
      obtain ⟨v, hv, hv2⟩ := number_loop (F := F) (x := sx) (x1 := lo) (x2 := hi) g1 h5 (by omega) h4 hF (kk := fun s3 x1_4 x2_5 x3_6 => (f_H_within s3 x3_6 x1_4 x2_5).bind fun q7 => if w32 q7.1 = 0 then (f_Read_blame q7.2 4).bind fun q9 => (f_Read_step F q9).bind fun q1 => some (x3_6, q1) else (f_Read_step F q7.2).bind fun q1 => some (x3_6, q1))
      rw [hv, hv2 q3, ← q5]
      rw [within_eq (x := sm 0 84) (by rw [q5]; exact ⟨by omega, by omega⟩) ⟨by omega, by omega⟩ ⟨by omega, by omega⟩]
      simp only [Option.bind_some]
      by_cases c : lo ≤ sm 0 84 ∧ sm 0 84 ≤ hi
      · rw [if_neg (fun q => b01_0.mp q c), if_pos c]
      · rw [if_pos (b01_0.mpr c), if_neg c]
    by_cases c : lo ≤ sm 0 84 ∧ sm 0 84 ≤ hi
    · obtain ⟨x2, m2, s1, s2, s3, s4, s5, s6⟩ := step2 g1 g2 g5 g6 h4 h3 h6 hF
      refine ⟨sm 0 84, sm 0 84, x2, m2, ?_, ?_, s3, KN_Q s4, ?_⟩
      · rw [eX, if_pos c, s1]; rfl
      · unfold f_M_numberOf b_M_numberOf_38 b_M_numberOf_49
        rw [if_pos (by rw [q1]), wN, wl, wh, if_neg (by omega), if_pos c.2, if_pos (by rw [g6]; decide), s2]
        simp only [Option.bind_some]
        rw [if_pos (by rw [s5]; decide)]
      · rcases s6 with s6 | s6
        · exact .inl ⟨r, s6, rfl, c.1, c.2⟩
        · exact .inr s6
    · obtain ⟨b1, b2⟩ := flt_mk h0 (k := 4) (by decide)
      refine ⟨sm 0 84, lo, _, _, ?_, ?_, frs_put (frs_put (frs_refl _ _) rfl) rfl, frs_put (frs_put (frs_refl _ _) rfl) rfl, .inr b2⟩
      · rw [eX, if_neg c, b1]
        simp only [Option.bind_some]
        rw [f_step (x := put (put sx 41 1 4) 41 2 (sx 41 6)) (by show (1 : Int) ≤ 4 ∧ (4 : Int) ≤ 5; decide)]
        rfl
      · have e29 : b_M_numberOf_29 F sm lo (sm 0 84) = some (lo, put (put sm 0 49 4) 0 50 (sm 0 82)) := by
          unfold b_M_numberOf_29 b_M_numberOf_38 b_M_numberOf_49
          rw [fail_eq g6]
          simp only [Option.bind_some]
          rw [if_neg (show ¬ w32 ((put (put sm 0 49 4) 0 50 (sm 0 82)) 0 49) = 0 by show ¬ w32 4 = 0; decide), if_neg (show ¬ w32 ((put (put sm 0 49 4) 0 50 (sm 0 82)) 0 49) = 0 by show ¬ w32 4 = 0; decide)]
        unfold f_M_numberOf
        rw [if_pos (by rw [q1]), wN, wl, wh]
        by_cases c2 : sm 0 84 < lo
        · rw [if_pos c2]; exact e29
        · rw [if_neg c2, if_neg (by omega)]; exact e29
  · exact bad (by rw [q2]; decide) (by rw [q2]; decide) (by rw [q1]; decide) (by rw [q1]; decide)
