theorem empty_loop {F nh : Nat} {s0 : St} (hn : nh ≤ 4) (h0 : s0 72 0 = nh) : ∀ (d g n : Nat) (s : St), g + d = nh → d < n → (∀ k, k < g → s 77 k = s0 74 k ∧ s 78 k = s0 75 k ∧ s 79 k = s0 76 k) → s 72 1 = 0 → s 73 0 = 0 → frs LayX s0 s → ∃ s2, l_Halls_emptyAll_14 F (fun s4 => some s4) n s g = some s2 ∧ (∀ k, k < nh → s2 77 k = s0 74 k ∧ s2 78 k = s0 75 k ∧ s2 79 k = s0 76 k) ∧ s2 72 1 = 0 ∧ s2 73 0 = 0 ∧ frs LayX s0 s2 := by
  intro d
  induction d with
  | zero =>
    intro g n s hg hd h1 h2 h3 h4
    obtain ⟨m, rfl⟩ : ∃ m, n = m + 1 := ⟨n - 1, by omega⟩
    refine ⟨s, ?_, fun k hk => h1 k (by omega), h2, h3, h4⟩
    show b_Halls_emptyAll_14 F _ _ s g = _
    unfold b_Halls_emptyAll_14
    rw [if_pos (by rw [(h4 72 0 rfl).trans h0, wnat (by omega), wnat (by omega)]; omega)]
  | succ d ih =>
    intro g n s hg hd h1 h2 h3 h4
    obtain ⟨m, rfl⟩ : ∃ m, n = m + 1 := ⟨n - 1, by omega⟩
    have ig : inb (g : Int) 4 := inbN (by omega) (by decide)
    have e : l_Halls_emptyAll_14 F (fun s4 => some s4) (m + 1) s g = l_Halls_emptyAll_14 F (fun s4 => some s4) m (put (put (put s 77 g (s 74 g)) 78 g (s 75 g)) 79 g (s 76 g)) ((g + 1 : Nat) : Int) := by
      show b_Halls_emptyAll_14 F (l_Halls_emptyAll_14 F (fun s4 => some s4) m) _ s g = _
      unfold b_Halls_emptyAll_14
      rw [if_neg (by rw [(h4 72 0 rfl).trans h0, wnat (by omega), wnat (by omega)]; omega)]
      simp only [ix_nat (show g < 2147483648 by omega), gd_yes ig]
      rfl
    rw [e]
    refine ih (g + 1) m _ (by omega) (by omega) ?_ h2 h3 (frs_put (frs_put (frs_put h4 rfl) rfl) rfl)
    intro k hk
    show (put s 77 g (s 74 g)) 77 k = _ ∧ (put (put s 77 g (s 74 g)) 78 g (s 75 g)) 78 k = _ ∧ (put (put (put s 77 g (s 74 g)) 78 g (s 75 g)) 79 g (s 76 g)) 79 k = _
    rw [put_at, put_at, put_at]
    by_cases e : k = g
    · rw [if_pos e, if_pos e, if_pos e, e]
      exact ⟨h4 74 g rfl, h4 75 g rfl, h4 76 g rfl⟩
    · rw [if_neg e, if_neg e, if_neg e]
      exact h1 k (by omega)
theorem empty_eq {F nh : Nat} {s0 : St} (hn : nh ≤ 4) (h0 : s0 72 0 = nh) (hF : 10 ≤ F) : ∃ s2, f_Halls_emptyAll F s0 = some s2 ∧ (∀ k, k < nh → s2 77 k = s0 74 k ∧ s2 78 k = s0 75 k ∧ s2 79 k = s0 76 k) ∧ s2 72 1 = 0 ∧ s2 73 0 = 0 ∧ frs LayX s0 s2 := by
  unfold f_Halls_emptyAll
  rw [gd_yes (by decide)]
  exact empty_loop hn h0 nh 0 F (put (put s0 72 1 0) 73 0 0) (by omega) (by omega) (fun k hk => absurd hk (Nat.not_lt_zero k)) rfl rfl (frs_put (frs_put (frs_refl _ _) rfl) rfl)
theorem emptyM_loop {F : Nat} {s0 : St} (kk : St → Option (Int × St)) : ∀ (d g n : Nat) (s : St), g + d = 4 → d < n → (∀ k, k < g → s 54 k = 0 ∧ s 55 k = 0 ∧ s 56 k = 0) → s 0 71 = 0 → frs LayM s0 s → ∃ s2, l_M_lays_7 F kk n s g = kk s2 ∧ (∀ k, k < 4 → s2 54 k = 0 ∧ s2 55 k = 0 ∧ s2 56 k = 0) ∧ s2 0 71 = 0 ∧ frs LayM s0 s2 := by
  intro d
  induction d with
  | zero =>
    intro g n s hg hd h1 h2 h4
    obtain ⟨m, rfl⟩ : ∃ m, n = m + 1 := ⟨n - 1, by omega⟩
    refine ⟨s, ?_, fun k hk => h1 k (by omega), h2, h4⟩
    show b_M_lays_7 F _ _ s g = _
    unfold b_M_lays_7
    rw [if_pos (by rw [show w32 4 = 4 by decide, wnat (by omega)]; omega)]
  | succ d ih =>
    intro g n s hg hd h1 h2 h4
    obtain ⟨m, rfl⟩ : ∃ m, n = m + 1 := ⟨n - 1, by omega⟩
    have ig : inb (g : Int) 4 := inbN (by omega) (by decide)
    have e : l_M_lays_7 F kk (m + 1) s g = l_M_lays_7 F kk m (put (put (put s 54 g 0) 55 g 0) 56 g 0) ((g + 1 : Nat) : Int) := by
      show b_M_lays_7 F (l_M_lays_7 F kk m) _ s g = _
      unfold b_M_lays_7
      rw [if_neg (by rw [show w32 4 = 4 by decide, wnat (by omega)]; omega)]
      simp only [ix_nat (show g < 2147483648 by omega), gd_yes ig]
      rfl
    rw [e]
    refine ih (g + 1) m _ (by omega) (by omega) ?_ h2 (frs_put (frs_put (frs_put h4 rfl) rfl) rfl)
    intro k hk
    show (put s 54 g 0) 54 k = _ ∧ (put (put s 54 g 0) 55 g 0) 55 k = _ ∧ (put (put (put s 54 g 0) 55 g 0) 56 g 0) 56 k = _
    rw [put_at, put_at, put_at]
    by_cases e : k = g
    · rw [if_pos e, if_pos e, if_pos e]
      exact ⟨rfl, rfl, rfl⟩
    · rw [if_neg e, if_neg e, if_neg e]
      exact h1 k (by omega)
theorem LAYS {F nb nh : Nat} {sx sm : St} (hF : 40010 ≤ F) (hD : DATA nb nh sx sm) : ∃ q1 q2, ((f_Halls_emptyAll F sx).bind fun q3 => f_Halls_search F q3) = some q1 ∧ f_M_lays F sm = some q2 ∧ POSTL nb sx sm q1 q2 := by
  have hD0 := hD
  obtain ⟨d1, d2, d3, d4, d5, d6, d7, d8⟩ := hD
  obtain ⟨x1, hx1, x2, x3, x4, x5⟩ := empty_eq (F := F) d2 d5 (by omega)
  rw [hx1]
  show ∃ q1 q2, f_Halls_search F x1 = some q1 ∧ _
  obtain ⟨m1, hm1, m2, m3, m4⟩ := emptyM_loop (F := F) (s0 := sm) (fun s2 => if w32 (s2 0 4) ≤ 0 then l_M_lays_55 F (fun s7 => some (0, s7)) F s2 0 else gd (inb 0 24) (let s5 := put s2 53 (ix 0) (-1); l_M_lays_55 F (fun s6 => some (0, s6)) F s5 0)) 4 0 F (put sm 0 71 0) (by omega) (by omega) (fun k hk => absurd hk (Nat.not_lt_zero k)) rfl (frs_put (frs_refl _ _) rfl)
  have e0 : f_M_lays F sm = _ := hm1
  rw [e0]
  have n4 : m1 0 4 = nb := (m4 0 4 rfl).trans d4
  obtain ⟨f, rfl⟩ : ∃ f, F = f + 1 := ⟨F - 1, by omega⟩
  by_cases c : nb = 0
  · rw [if_pos (by rw [n4, wnat (by omega)]; omega)]
    have eX : f_Halls_search (f + 1) x1 = some (0, x1) := by
      show b_Halls_search_4 (f + 1) _ _ x1 0 0 = _
      unfold b_Halls_search_4
      rw [if_neg (by decide), if_neg (by decide), if_pos (by rw [(x5 1 0 rfl).trans d3, wnat (by omega), show w32 0 = 0 by decide]; omega)]
      rfl
    have eM : l_M_lays_55 (f + 1) (fun s7 => some (0, s7)) (f + 1) m1 0 = some (0, m1) := by
      show b_M_lays_55 (f + 1) _ _ m1 0 = _
      unfold b_M_lays_55
      rw [if_pos (by rw [n4, wnat (by omega), show w32 0 = 0 by decide]; omega)]
    refine ⟨_, _, eX, eM, rfl, show (0 : Int) ≤ 0 by decide, show (0 : Int) ≤ 10 by decide, ?_, fun _ b hb => by omega, x5, m4⟩
    show x1 72 1 = m1 0 71
    rw [x3, m3]
  · rw [if_neg (by rw [n4, wnat (by omega)]; omega), gd_yes (by decide)]
    show ∃ q1 q2, l_Halls_search_4 (f + 1) (kXs (f + 1)) (f + 1) x1 ((0 : Nat) : Int) ((0 : Nat) : Int) = some q1 ∧ l_M_lays_55 (f + 1) k204 (f + 1) (put m1 53 0 (-1)) 0 = some q2 ∧ _
    have f4 : frs LayM sm (put m1 53 0 (-1)) := frs_put m4 rfl
    have eM : l_M_lays_55 (f + 1) k204 (f + 1) (put m1 53 0 (-1)) 0 = l_M_lays_95 (f + 1) (kMs (f + 1) f) (f + 1) (put m1 53 0 (-1)) ((0 : Nat) : Int) ((0 : Nat) : Int) 0 := by
      show b_M_lays_55 (f + 1) (l_M_lays_55 (f + 1) k204 f) k204 (put m1 53 0 (-1)) 0 = _
      unfold b_M_lays_55 b_M_lays_84
      rw [if_neg (show ¬ w32 ((put m1 53 0 (-1)) 0 4) ≤ w32 0 by rw [(f4 0 4 rfl).trans d4, wnat (by omega), show w32 0 = 0 by decide]; omega), gd_yes (by decide), show ix 0 = 0 from rfl, put_eq, if_pos (by decide), gd_yes (by decide)]
      rfl
    rw [eM]
    refine SIML (F := f + 1) hD0 (by omega) 40001 0 0 0 0 (f + 1) (f + 1) f _ _ ⟨by omega, by omega, by omega, by omega, x3, m3, x4, fun k hk => absurd hk (Nat.not_lt_zero k), ?_, x5, f4⟩ (by omega) (by omega) (by omega) (by omega)
    intro g hg
    have a1 := x2 g hg
    have a2 := m2 g (by omega)
    have a3 := d8 g hg
    have b1 : (put m1 53 0 (-1)) 54 g = 0 := a2.1
    have b2 : (put m1 53 0 (-1)) 55 g = 0 := a2.2.1
    have b3 : (put m1 53 0 (-1)) 56 g = 0 := a2.2.2
    have b4 : (put m1 53 0 (-1)) 50 g = sm 50 g := f4 50 g rfl
    have b5 : (put m1 53 0 (-1)) 51 g = sm 51 g := f4 51 g rfl
    have b6 : (put m1 53 0 (-1)) 52 g = sm 52 g := f4 52 g rfl
    rw [b1, b2, b3, b4, b5, b6, a1.1, a1.2.1, a1.2.2]
    omega
theorem DATA_of {F : Nat} {sx sm t : St} {nb nh : Nat} (hB : IB sx sm) (hH : IH F sx sm) (hb : sm 0 4 = nb) (hh : sm 0 70 = nh) (v : Int) (ht : SAMEH nb sm t) : DATA nb nh (put sx 72 9 v) t := by
  obtain ⟨⟨b1, b2, b3⟩, b4⟩ := hB
  obtain ⟨⟨h1, h2, h3⟩, h4, -⟩ := hH
  obtain ⟨t1, t2, t3, t4⟩ := ht
  refine ⟨by omega, by omega, ?_, t1, ?_, ?_, ?_, ?_⟩
  · show sx 1 0 = nb
    rw [b1, hb]
  · show sx 72 0 = nh
    rw [h1, hh]
  · rw [t2, hh]
  · intro b hbb
    have z := b4 b (by omega)
    have y := t3 b hbb
    rw [y.1, y.2]
    exact ⟨z.2.2.2.1, z.2.2.2.2⟩
  · intro h hhh
    have z := h4 h (by omega)
    have y := t4 h (by omega)
    rw [y.1, y.2.1, y.2.2]
    exact z
theorem lay_both {F : Nat} (hF : 40010 ≤ F) {sx sm : St} (hI : INV F sx sm) : ∃ r sx2 sm2, f_Halls_lay F sx = some (r, sx2) ∧ f_M_lays F (put (put sm 0 1 0) 0 0 0) = some (r, sm2) ∧ 0 ≤ r ∧ r ≤ 10 ∧ sx2 72 1 = sm2 0 71 ∧ (r = 0 → ∀ b : Nat, (b : Int) < sm 0 4 → sx2 73 b = sm2 53 b) ∧ sm2 0 0 = 0 ∧ sx2 1 0 = sx 1 0 ∧ ∀ (v : Int) (s2 : St), (∀ c j, gM c j ≠ 0 → gM c j ≠ 4 → s2 c j = sm2 c j) → s2 0 0 = v → INV F (put sx2 0 13 v) s2 := by
  have hI0 := hI
  obtain ⟨hB, hJ, hL, hS, hM, hFr, hT, hR, hH, hP⟩ := hI
  obtain ⟨⟨b1, b2, b3⟩, b4⟩ := hB
  obtain ⟨nb, hnb⟩ : ∃ n : Nat, sm 0 4 = n := ⟨(sm 0 4).toNat, by omega⟩
  obtain ⟨nh, hnh⟩ : ∃ n : Nat, sm 0 70 = n := ⟨(sm 0 70).toNat, by have := hH.1; omega⟩
  have ht : SAMEH nb sm (put (put sm 0 1 0) 0 0 0) := ⟨hnb, rfl, fun _ _ => ⟨rfl, rfl⟩, fun _ _ => ⟨rfl, rfl, rfl⟩⟩
  have x10 : sx 1 0 = nb := by rw [b1, hnb]
  have w10 : w32 (sx 1 0) = nb := by rw [x10, wnat (by omega)]
  have frM : ∀ (sm2 s2 : St), frs LayM (put (put sm 0 1 0) 0 0 0) sm2 → (∀ c j, gM c j ≠ 0 → gM c j ≠ 4 → s2 c j = sm2 c j) → ∀ c j, gM c j ≠ 0 → gM c j ≠ 4 → s2 c j = sm c j := by
    intro sm2 s2 f1 f2 c j q1 q2
    rw [f2 c j q1 q2, f1 c j ?_]
    · unfold put
      rw [if_neg (fun z => q2 (by rw [z.1, z.2]; rfl)), if_neg (fun z => q1 (by rw [z.1, z.2]; rfl))]
    · cases e : LayM c j with
      | false => rfl
      | true =>
        exfalso
        apply q1
        unfold LayM at e
        simp only [Bool.or_eq_true, beq_iff_eq, Bool.and_eq_true] at e
        rcases e with (((e | e) | e) | e) | e
        · rw [e]; rfl
        · rw [e]; rfl
        · rw [e]; rfl
        · rw [e]; rfl
        · rw [e.1, e.2]; rfl
  by_cases c : sx 72 9 = nb
  · obtain ⟨h1, h2, h3⟩ := hH
    rcases h3 with h3 | ⟨m, h3, h4, h5⟩
    · omega
    · have em : m = nb := by omega
      subst em
      obtain ⟨q, hq, g1, g2, g3, g4, g5, g6⟩ := h5 _ ht
      refine ⟨sx 72 10, sx, q.2, ?_, ?_, by omega, by omega, g4.symm, fun hr b hb => (g5 b (by omega) (by omega)).symm, ?_, rfl, ?_⟩
      · unfold f_Halls_lay
        rw [if_pos (by rw [c, w10, wnat (by omega)])]
      · rw [hq, ← g1]
      · exact (g6 0 0 rfl).trans rfl
      · intro v s2 f1 f2
        refine INV_st (fun c j q1 q2 => ?_) (frM q.2 s2 g6 f1) f2.symm hI0
        exact if_neg (fun z => q2 (by rw [z.1, z.2]; rfl))
  · have w9 : ¬ w32 (sx 72 9) = w32 (sx 1 0) := by
      rw [w10]
      rcases hH.2.2 with h3 | ⟨m, h3, h4, h5⟩
      · rw [h3, show w32 (-1) = -1 by decide]; omega
      · rw [h3, wnat (by omega)]; omega
    have D0 := DATA_of (t := put (put sm 0 1 0) 0 0 0) ⟨⟨b1, b2, b3⟩, b4⟩ hH hnb hnh (sx 1 0) ht
    obtain ⟨q1, q2, e1, e2, p1, p2, p3, p4, p5, p6, p7⟩ := LAYS hF D0
    have h0 := hH
    obtain ⟨h1, h2, h3⟩ := hH
    refine ⟨q2.1, put q1.2 72 10 q1.1, q2.2, ?_, e2, p2, p3, p4, fun hr b hb => p5 hr b (by omega), ?_, ?_, ?_⟩
    · unfold f_Halls_lay
      rw [if_neg w9]
      show ((f_Halls_emptyAll F (put sx 72 9 (sx 1 0))).bind fun q3 => (f_Halls_search F q3).bind fun q4 => _) = _
      cases ee : f_Halls_emptyAll F (put sx 72 9 (sx 1 0)) with
      | none => rw [ee] at e1; cases e1
      | some z =>
        rw [ee] at e1
        have e1 : f_Halls_search F z = some q1 := e1
        show ((f_Halls_search F z).bind fun q4 => _) = _
        rw [e1]
        show some (put q1.2 72 10 q1.1 72 10, put q1.2 72 10 q1.1) = _
        rw [put_eq, p1]
    · exact (p7 0 0 rfl).trans rfl
    · show q1.2 1 0 = sx 1 0
      exact p6 1 0 rfl
    · intro v s2 f1 f2
      have M := frM q2.2 s2 p7 f1
      have X : ∀ c j, gX c j ≠ 0 → gX c j ≠ 4 → gX c j ≠ 9 → (put (put q1.2 72 10 q1.1) 0 13 v) c j = sx c j := by
        intro c j z1 z2 z3
        have y1 : ¬ (c = 0 ∧ j = 13) := fun z => z2 (by rw [z.1, z.2]; rfl)
        have y2 : ¬ (c = 72 ∧ j = 10) := fun z => z3 (by rw [z.1, z.2]; rfl)
        have y3 : ¬ (c = 72 ∧ j = 9) := fun z => z3 (by rw [z.1, z.2]; rfl)
        have y4 : LayX c j = false := by
          cases e : LayX c j with
          | false => rfl
          | true =>
            exfalso
            unfold LayX at e
            simp only [Bool.or_eq_true, beq_iff_eq, Bool.and_eq_true] at e
            rcases e with (((e | e) | e) | e) | e
            · exact z3 (by rw [e]; rfl)
            · exact z1 (by rw [e]; rfl)
            · exact z1 (by rw [e]; rfl)
            · exact z1 (by rw [e]; rfl)
            · exact z3 (by rw [e.1, e.2]; rfl)
        have y5 := p6 c j y4
        unfold put at y5 ⊢
        rw [if_neg y1, if_neg y2, y5, if_neg y3]
      refine ⟨IB_cong (fun c j q => X c j (by omega) (by omega) (by omega)) (fun c j q => M c j (by omega) (by omega)) ⟨⟨b1, b2, b3⟩, b4⟩, IJ_cong (fun c j q => X c j (by omega) (by omega) (by omega)) (fun c j q => M c j (by omega) (by omega)) hJ, IL_cong (fun c j q => X c j (by omega) (by omega) (by omega)) (fun c j q => M c j (by omega) (by omega)) hL, f2.symm, IM_cong (M _ _ (by decide) (by decide)) (M _ _ (by decide) (by decide)) (fun c j q => X c j (by omega) (by omega) (by omega)) (fun c j q => M c j (by omega) (by omega)) hM, IF_cong (fun c j q => X c j (by omega) (by omega) (by omega)) (fun c j q => M c j (by omega) (by omega)) hFr, IT_cong (fun c j q => X c j (by omega) (by omega) (by omega)) (fun c j q => M c j (by omega) (by omega)) hT, IR_cong (fun c j q => X c j (by omega) (by omega) (by omega)) (fun c j q => M c j (by omega) (by omega)) hR, ?_, IP_cong (fun c j q => X c j (by omega) (by omega) (by omega)) (fun c j q => M c j (by omega) (by omega)) hP⟩
      have M70 : s2 0 70 = sm 0 70 := M _ _ (by decide) (by decide)
      have M4 : s2 0 4 = sm 0 4 := M _ _ (by decide) (by decide)
      have m50 : ∀ h, s2 50 h = sm 50 h := fun h => M _ _ (show (9 : Nat) ≠ 0 by decide) (show (9 : Nat) ≠ 4 by decide)
      have m51 : ∀ h, s2 51 h = sm 51 h := fun h => M _ _ (show (9 : Nat) ≠ 0 by decide) (show (9 : Nat) ≠ 4 by decide)
      have m52 : ∀ h, s2 52 h = sm 52 h := fun h => M _ _ (show (9 : Nat) ≠ 0 by decide) (show (9 : Nat) ≠ 4 by decide)
      have m4 : ∀ h, s2 4 h = sm 4 h := fun h => M _ _ (show (1 : Nat) ≠ 0 by decide) (show (1 : Nat) ≠ 4 by decide)
      have m8 : ∀ h, s2 8 h = sm 8 h := fun h => M _ _ (show (1 : Nat) ≠ 0 by decide) (show (1 : Nat) ≠ 4 by decide)
      have y720 : (put (put q1.2 72 10 q1.1) 0 13 v) 72 0 = sx 72 0 := p6 72 0 rfl
      have y74 : ∀ h, (put (put q1.2 72 10 q1.1) 0 13 v) 74 h = sx 74 h := fun h => p6 74 h rfl
      have y75 : ∀ h, (put (put q1.2 72 10 q1.1) 0 13 v) 75 h = sx 75 h := fun h => p6 75 h rfl
      have y76 : ∀ h, (put (put q1.2 72 10 q1.1) 0 13 v) 76 h = sx 76 h := fun h => p6 76 h rfl
      refine ⟨?_, ?_, .inr ⟨nb, ?_, ?_, ?_⟩⟩
      · rw [y720, M70]; exact h1
      · intro h hh
        rw [y74, y75, y76, m50, m51, m52]
        exact h2 h (by rw [← M70]; exact hh)
      · show q1.2 72 9 = nb
        rw [p6 72 9 rfl]
        exact x10
      · rw [M4]; omega
      · intro t ht
        have ht2 : SAMEH nb sm t := by
          obtain ⟨t1, t2, t3, t4⟩ := ht
          refine ⟨t1, by rw [t2, M70], fun b hb => ?_, fun h hh => ?_⟩
          · rw [← m4, ← m8]; exact t3 b hb
          · rw [← m50, ← m51, ← m52]; exact t4 h (by rw [M70]; exact hh)
        obtain ⟨r1, r2, k1, k2, u1, u2, u3, u4, u5, u6, u7⟩ := LAYS hF (DATA_of ⟨⟨b1, b2, b3⟩, b4⟩ h0 hnb hnh (sx 1 0) ht2)
        have er : r1 = q1 := Option.some.inj (k1.symm.trans e1)
        subst er
        refine ⟨r2, k2, u1.symm, u2, u3, u4.symm, fun b hb hz => (u5 hz b hb).symm, u7⟩
theorem s_tries {F : Nat} (hF : 40010 ≤ F) : st_tries F (INV F) := by
  intro sx sm h
  obtain ⟨r, sx2, sm2, e1, e2, g1, g2, g3, g4, g5, g6, g7⟩ := lay_both hF h
  have wr : w32 r = r := wid (by omega) (by omega)
  refine mk2 (T_bind (T_eq e1 ?_))
  by_cases c : r = 0
  · refine T_yes (show w32 r = 0 by omega) (T_bind (T_some (T_some ?_)))
    refine T_bind (T_eq e2 (T_yes (show w32 r ≤ 0 by omega) (T_some ⟨congrArg w32 g3, g7 0 sm2 (fun _ _ _ _ => rfl) g5⟩)))
  · refine T_no (show ¬ w32 r = 0 by omega) (T_bind (T_some (T_some ?_)))
    refine T_bind (T_eq e2 (T_no (show ¬ w32 r ≤ 0 by omega) (T_bind (T_some (T_some ⟨rfl, g7 r _ (fun c j q1 q2 => ?_) (put_eq sm2 0 0 r)⟩)))))
    exact if_neg (fun z => q2 (by rw [z.1, z.2]; rfl))
theorem s_laid {F : Nat} (hF : 40010 ≤ F) : st_laid F (INV F) := by
  intro sx sm h a1 r1
  have h0 := h
  obtain ⟨r, sx2, sm2, e1, e2, g1, g2, g3, g4, g5, g6, g7⟩ := lay_both hF h
  obtain ⟨hB, hJ, hL, hS, hM, hFr, hT, hR, hH, hP⟩ := h
  have j4 : i32 (sm 0 4) := by have := hB.1; unfold i32; omega
  have x1 : sx 1 0 = sm 0 4 := hB.1.1
  have b3 := hB.1
  have wr : w32 r = r := wid (by omega) (by omega)
  refine mk2 (T_bind (T_eq (hasB_eq r1 (by rw [x1]; exact j4)) ?_))
  by_cases c1 : 0 ≤ a1 ∧ a1 < sm 0 4
  · obtain ⟨b, hb⟩ : ∃ n : Nat, a1 = n := ⟨a1.toNat, by omega⟩
    subst hb
    have ib : inb (b : Int) 24 := inbN (by omega) (by decide)
    refine T_no (fun q => b01_0.mp q (by rw [x1]; exact c1)) (T_bind (T_eq e1 ?_))
    by_cases c : r = 0
    · refine T_yes (show w32 r = 0 by omega) (T_gd ib (T_bind (T_some (T_some ?_))))
      refine T_bind (T_eq (isB_eq r1 j4) (T_no (fun q => b01_0.mp q c1) (T_bind (T_eq e2 (T_yes (show w32 r ≤ 0 by omega) (T_gd ib (T_some ⟨?_, g7 0 sm2 (fun _ _ _ _ => rfl) g5⟩)))))))
      show w32 (sx2 73 (ix b)) = w32 (sm2 53 (ix b))
      rw [ix_nat (by omega), g4 c b c1.2]
    · refine T_no (show ¬ w32 r = 0 by omega) (T_bind (T_some (T_some ?_)))
      refine T_bind (T_eq (isB_eq r1 j4) (T_no (fun q => b01_0.mp q c1) (T_bind (T_eq e2 (T_no (show ¬ w32 r ≤ 0 by omega) (T_bind (T_some (T_some ⟨rfl, g7 r _ (fun c j q1 q2 => ?_) (put_eq sm2 0 0 r)⟩))))))))
      exact if_neg (fun z => q2 (by rw [z.1, z.2]; rfl))
  · refine T_yes (b01_0.mpr (by rw [x1]; exact c1)) (T_bind (T_some (T_some ?_)))
    exact T_bind (T_eq (isB_eq r1 j4) (T_yes (b01_0.mpr c1) (T_bind (T_some (T_some ⟨rfl, ⟨hB, hJ, hL, rfl, hM, hFr, hT, hR, hH, hP⟩⟩)))))
