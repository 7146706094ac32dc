/-- from the word best on -/
def midX (F cp n : Nat) (x : St) : Option St := (f_Read_takeWord F 1005 x).bind fun q9 => (f_Read_takeNumber F q9 1 24).bind fun q10 => gd (inb (n : Int) 8) (tailX F cp n (put q10.2 (cp + 1) (ix (n : Int)) q10.1))
theorem fl_mid {F e : Nat} {tp : Nat → Int} {cp n : Nat} {x m : St} (hcp : cp = 80 ∨ cp = 88) (hn : n < 8) (h : FLT e tp x m) (hF : 330 ≤ F) : ∃ x2, midX F cp n x = some x2 ∧ frs (XR cp) x x2 ∧ FLT e tp x2 m := by
  have hr : 1 ≤ x 41 1 ∧ x 41 1 ≤ 5 := ⟨h.2.2.2.1, h.2.2.2.2.1⟩
  obtain ⟨v, hv⟩ := f_takeNumber (F := F) (x1 := 1) (x2 := 24) h.1 h.2.2.1 hr (by omega)
  unfold midX
  rw [f_takeWord (by omega) h.1 h.2.2.1 hr (by omega)]
  simp only [Option.bind_some]
  rw [hv]
  simp only [Option.bind_some, gd_yes (inbN hn (by decide)), ix_nat (show n < 2147483648 by omega)]
  have h2 : FLT e tp (put x (cp + 1) n v) m := FLT_cong h (fun j => put_c (by omega)) (fun j => put_c (by omega)) (fun _ => rfl) (fun _ => rfl)
  exact ⟨_, flTailX h2, frs_put (frs_refl _ _) (by unfold XR; simp), h2⟩
theorem mid2 {F e : Nat} {tp : Nat → Int} {cp n p : Nat} {x m : St} (hcp : cp = 80 ∨ cp = 88) (hn : n < 8) (h : SYN e tp p x m) (ha : x (cp + 2) n = 0) (hF : 330 ≤ F) : ∃ x2 m2, midX F cp n x = some x2 ∧ b_M_readPrize_237 F m n = some m2 ∧ frs (XR cp) x x2 ∧ frs MR m m2 ∧ ((∃ p2, SYN e tp p2 x2 m2 ∧ m2 0 52 = m 0 52 + 1 ∧ (x2 (cp + 1) n = m2 43 n ∧ 1 ≤ m2 43 n ∧ m2 43 n ≤ 24) ∧ (x2 (cp + 2) n = m2 44 n ∧ 0 ≤ m2 44 n ∧ m2 44 n ≤ 1) ∧ (∀ c j, ¬ c = 41 → ¬ ((c = cp + 1 ∨ c = cp + 2) ∧ j = n) → x2 c j = x c j) ∧ ∀ c j, ¬ c = 0 → ¬ ((c = 43 ∨ c = 44) ∧ j = n) → m2 c j = m c j) ∨ FLT e tp x2 m2) := by
  have e49 : m 0 49 = 0 := h.2.2.2.2.2.1
  obtain ⟨b, w1, w2, w3⟩ := word2 (F := F) h (cs := 1005) (n := 4) (by omega) rfl (by omega)
  have eM : ∀ r : Option St, (if b = true then (f_M_next F m).bind fun q6 => (f_M_numberOf F q6 1 24).bind fun q7 => gd (inb (n : Int) 9) (tailM F n (put q7.2 43 (ix (n : Int)) q7.1)) else (f_M_wrong m).bind fun q5 => some q5) = r → b_M_readPrize_237 F m n = r := by
    intro r hr
    rw [← hr]
    unfold b_M_readPrize_237
    rw [if_pos (by rw [e49]; decide), sp_best]
    simp only [Option.bind_some]
    rw [w2]
    simp only [Option.bind_some]
    by_cases c : b = true
    · rw [if_neg (fun q => b01_0.mp q c), if_pos c]
      rfl
    · rw [if_pos (b01_0.mpr c), if_neg c]
  cases b with
  | false =>
    obtain ⟨b1, b2⟩ := flt_mk h (k := 2) (by decide)
    have hs81 : ¬ m 0 81 = 4 ∧ 0 ≤ m 0 81 ∧ m 0 81 ≤ 4 := by
      obtain ⟨a, r, hh⟩ := syn_hand h
      rcases hh.2.2.2.2.2.2 with ⟨q, _⟩ | ⟨q, _⟩ | ⟨q, _⟩ | ⟨q, _⟩ <;> rw [q] <;> decide
    have hM := eM (some (put (put m 0 49 2) 0 50 (m 0 82))) (by rw [if_neg Bool.false_ne_true, wrong_eq e49 hs81.2, if_neg hs81.1]; rfl)
    have hr : 1 ≤ (put (put x 41 1 2) 41 2 (x 41 6)) 41 1 ∧ (put (put x 41 1 2) 41 2 (x 41 6)) 41 1 ≤ 5 := ⟨b2.2.2.2.1, b2.2.2.2.2.1⟩
    obtain ⟨v, hv⟩ := f_takeNumber (F := F) (x1 := 1) (x2 := 24) b2.1 b2.2.2.1 hr (by omega)
    have hX : midX F cp n x = some (put (put (put x 41 1 2) 41 2 (x 41 6)) (cp + 1) n v) := by
      unfold midX f_Read_takeWord b_Read_takeWord_13
      rw [w1]
      simp only [Option.bind_some]
      rw [if_pos (b01_0.mpr Bool.false_ne_true), b1]
      simp only [Option.bind_some]
      rw [f_step hr]
      simp only [Option.bind_some]
      rw [hv]
      simp only [Option.bind_some, gd_yes (inbN hn (by decide)), ix_nat (show n < 2147483648 by omega)]
      exact flTailX (FLT_cong b2 (fun j => put_c (by omega)) (fun j => put_c (by omega)) (fun _ => rfl) (fun _ => rfl))
    exact ⟨_, _, hX, hM, frs_put (KNX_R (frs_put (frs_put (frs_refl _ _) rfl) rfl)) (by unfold XR; simp), KQ_R (frs_put (frs_put (frs_refl _ _) rfl) rfl), .inr (FLT_cong b2 (fun j => put_c (by omega)) (fun j => put_c (by omega)) (fun _ => rfl) (fun _ => rfl))⟩
  | true =>
    obtain ⟨a, r, hh⟩ := syn_hand h
    obtain ⟨x1, m1, s1, s2, s3, s4, s5, s6⟩ := step2 (F := F) h.1 h.2.1 h.2.2.2.2.1 e49 hh.2.2.2.1 hh.2.2.1 hh.2.2.2.2.2.1 (by omega)
    have hXw : f_Read_takeWord F 1005 x = some x1 := by
      unfold f_Read_takeWord b_Read_takeWord_13
      rw [w1]
      simp only [Option.bind_some]
      rw [if_neg (show ¬ w32 (b01 True) = 0 by decide), s1]
      rfl
    have ip9 : inb (n : Int) 9 := inbN (by omega) (by decide)
    have ixn : ix (n : Int) = n := ix_nat (by omega)
    rcases s6 with s6 | s6
    · obtain ⟨vx, vm, x2, m2, t1, t2, t3, t4, t5⟩ := num2 (F := F) s6 (lo := 1) (hi := 24) (by omega) (by omega)
      have hXr : midX F cp n x = tailX F cp n (put x2 (cp + 1) n vx) := by
        unfold midX
        rw [hXw]
        simp only [Option.bind_some]
        rw [t1]
        simp only [Option.bind_some, gd_yes (inbN hn (by decide)), ixn]
      have hMr : b_M_readPrize_237 F m n = tailM F n (put m2 43 n vm) := eM _ (by
        rw [if_pos rfl, s2]
        simp only [Option.bind_some]
        rw [t2]
        simp only [Option.bind_some, gd_yes ip9, ixn])
      have fx : frs (XR cp) x (put x2 (cp + 1) n vx) := frs_put (frs_trans (KNX_R s3) (KNX_R t3)) (by unfold XR; simp)
      have fm : frs MR m (put m2 43 n vm) := frs_put (frs_trans (KQ_R (KN_Q s4)) (KQ_R t4)) rfl
      have pX41 : ∀ j, (put x2 (cp + 1) n vx) 41 j = x2 41 j := fun j => put_c (by omega)
      have pX42 : ∀ j, (put x2 (cp + 1) n vx) 42 j = x2 42 j := fun j => put_c (by omega)
      have pM0 : ∀ j, (put m2 43 n vm) 0 j = m2 0 j := fun j => put_c (by decide)
      have pM32 : ∀ j, (put m2 43 n vm) 32 j = m2 32 j := fun j => put_c (by decide)
      rcases t5 with ⟨p2, t5, t6, t7, t8⟩ | t5
      · have hS3 : SYN e tp p2 (put x2 (cp + 1) n vx) (put m2 43 n vm) := SYN_cong t5 pX41 pX42 pM0 pM32
        have ha2 : (put x2 (cp + 1) n vx) (cp + 2) n = 0 := by
          rw [put_c (by omega), t3 (cp + 2) n (by unfold KNX; simp; omega), s3 (cp + 2) n (by unfold KNX; simp; omega)]
          exact ha
        obtain ⟨x4, m4, u1, u2, u3, u4, u5⟩ := tail2 (F := F) hcp hn hS3 ha2 hF
        refine ⟨x4, m4, by rw [hXr]; exact u1, by rw [hMr]; exact u2, frs_trans fx u3, frs_trans fm u4, ?_⟩
        rcases u5 with ⟨p4, v1, v2, v3, v4, v5, v6, v7⟩ | u
        · have e1 : x4 (cp + 1) n = vx := by rw [v6 (cp + 1) n (by omega) (by omega), put_eq]
          have e2 : m4 43 n = vm := by rw [v7 43 n (by decide) (by omega), put_eq]
          refine .inl ⟨p4, v1, ?_, ⟨by rw [e1, e2]; exact t6, by rw [e2]; exact t7, by rw [e2]; exact t8⟩, ⟨v3, v4, v5⟩, fun c j hc hcj => ?_, fun c j hc hcj => ?_⟩
          · rw [v2, pM0, t4 0 52 rfl, s4 0 52 rfl]
          · rw [v6 c j hc (fun z => hcj ⟨.inr z.1, z.2⟩), show (put x2 (cp + 1) n vx) c j = x2 c j from if_neg (fun z => hcj ⟨.inl z.1, z.2⟩), t3 c j (by unfold KNX; simp [hc]), s3 c j (by unfold KNX; simp [hc])]
          · rw [v7 c j hc (fun z => hcj ⟨.inr z.1, z.2⟩), show (put m2 43 n vm) c j = m2 c j from if_neg (fun z => hcj ⟨.inl z.1, z.2⟩), t4 c j (by unfold KQ; simp [hc]), s4 c j (by unfold KN; simp [hc])]
        · exact .inr u
      · have hF3 : FLT e tp (put x2 (cp + 1) n vx) (put m2 43 n vm) := FLT_cong t5 pX41 pX42 pM0 pM32
        obtain ⟨m4, u1, u2, u3, _⟩ := flTailM (F := F) hn hF3
        exact ⟨_, m4, by rw [hXr]; exact flTailX hF3, by rw [hMr]; exact u1, fx, frs_trans fm u3, .inr u2⟩
    · obtain ⟨v2, m2, u1, u2, u3, u4⟩ := flNum (F := F) (lo := 1) (hi := 24) s6 s5
      have hr : 1 ≤ x1 41 1 ∧ x1 41 1 ≤ 5 := ⟨s6.2.2.2.1, s6.2.2.2.2.1⟩
      obtain ⟨v, hv⟩ := f_takeNumber (F := F) (x1 := 1) (x2 := 24) s6.1 s6.2.2.1 hr (by omega)
      have hXr : midX F cp n x = tailX F cp n (put x1 (cp + 1) n v) := by
        unfold midX
        rw [hXw]
        simp only [Option.bind_some]
        rw [hv]
        simp only [Option.bind_some, gd_yes (inbN hn (by decide)), ixn]
      have hMr : b_M_readPrize_237 F m n = tailM F n (put m2 43 n v2) := eM _ (by
        rw [if_pos rfl, s2]
        simp only [Option.bind_some]
        rw [u1]
        simp only [Option.bind_some, gd_yes ip9, ixn])
      have hF3 : FLT e tp (put x1 (cp + 1) n v) (put m2 43 n v2) := FLT_cong u2 (fun j => put_c (by omega)) (fun j => put_c (by omega)) (fun j => put_c (by decide)) (fun j => put_c (by decide))
      obtain ⟨m4, q1, q2, q3, _⟩ := flTailM (F := F) hn hF3
      exact ⟨_, m4, by rw [hXr]; exact flTailX hF3, by rw [hMr]; exact q1, frs_put (KNX_R s3) (by unfold XR; simp), frs_trans (frs_put (frs_trans (KQ_R (KN_Q s4)) (KQ_R u3)) rfl) q3, .inr q2⟩
