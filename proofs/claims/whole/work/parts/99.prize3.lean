/-- the reference behind the number: is the prize alone, and the stop -/
def tailM (F n : Nat) (s9 : St) : Option St := if w32 (s9 0 49) ≤ 0 then (f_M_spelled s9 97 108 111 110 101 0).bind fun q11 => (f_M_isWord q11.2 q11.1).bind fun q12 => gd (inb (n : Int) 9) (let s14 := put q12.2 44 (ix (n : Int)) (nz q12.1); gd (inb (n : Int) 9) (if w32 (s14 44 (ix (n : Int))) = 0 then b_M_readPrize_332 F s14 else (f_M_next F s14).bind fun q17 => b_M_readPrize_332 F q17)) else some s9
/-- the class behind the number -/
def tailX (F cp n : Nat) (s12 : St) : Option St := if w32 (s12 41 1) = 0 then (f_Read_isWord F 1006 s12).bind fun q14 => if w32 q14.1 = 0 then b_Read_readPrize_95 cp F q14.2 else gd (inb (n : Int) 8) (let s17 := put q14.2 (cp + 2) (ix (n : Int)) (nz 1); (f_Read_step F s17).bind fun q18 => b_Read_readPrize_95 cp F q18) else b_Read_readPrize_95 cp F s12
theorem fl332 {F e : Nat} {tp : Nat → Int} {x m : St} (h : FLT e tp x m) (hp : m 0 49 = 0) : ∃ m2, b_M_readPrize_332 F m = some m2 ∧ FLT e tp x m2 ∧ frs KQ m m2 := by
  obtain ⟨h1, h2, h3, h4, h5, h6⟩ := id h
  rcases h6 with ⟨q1, q2⟩ | ⟨q1, q2, q3, q4⟩
  · omega
  · unfold b_M_readPrize_332
    rw [if_neg (by rw [q2]; decide), wrong_eq q1 (by rw [q2]; decide), if_pos q2]
    refine ⟨_, rfl, ⟨h1, MTP_Q h2 (frs_put (frs_put (frs_refl _ _) rfl) rfl), h3, h4, h5, .inl ⟨?_, ?_⟩⟩, frs_put (frs_put (frs_refl _ _) rfl) rfl⟩
    · show (1 : Int) = x 41 1; rw [q3]
    · show m 0 82 = x 41 2; rw [q4]
theorem flTailX {F e : Nat} {tp : Nat → Int} {cp n : Nat} {x m : St} (h : FLT e tp x m) : tailX F cp n x = some x := by
  unfold tailX b_Read_readPrize_95
  have hr : 1 ≤ x 41 1 ∧ x 41 1 ≤ 5 := ⟨h.2.2.2.1, h.2.2.2.2.1⟩
  rw [if_neg (by rw [wid (a := x 41 1) (by omega) (by omega)]; omega), f_takeStop hr]
  rfl
theorem flTailM {F e : Nat} {tp : Nat → Int} {n : Nat} {x m : St} (hn : n < 8) (h : FLT e tp x m) : ∃ m2, tailM F n m = some m2 ∧ FLT e tp x m2 ∧ frs MR m m2 ∧ ∀ c j, ¬ c = 0 → ¬ (c = 44 ∧ j = n) → m2 c j = m c j := by
  have h0 := h
  obtain ⟨h1, h2, h3, h4, h5, h6⟩ := h
  unfold tailM
  rcases h6 with ⟨q1, q2⟩ | ⟨q1, q2, q3, q4⟩
  · rw [if_neg (by rw [q1, wid (a := x 41 1) (by omega) (by omega)]; omega)]
    exact ⟨m, rfl, h0, frs_refl _ _, fun _ _ _ _ => rfl⟩
  · rw [if_pos (by rw [q1]; decide), sp_alone]
    simp only [Option.bind_some]
    rw [wordM_no (s := m) (by rw [q2]; decide) (by rw [q2]; decide)]
    simp only [Option.bind_some, gd_yes (inbN (show n < 9 by omega) (by decide)), ix_nat (show n < 2147483648 by omega), nz_0, put_eq, show w32 0 = 0 by decide, if_true]
    have h7 : FLT e tp x (put m 44 n 0) := FLT_cong h0 (fun _ => rfl) (fun _ => rfl) (fun j => put_c (by decide)) (fun j => put_c (by decide))
    obtain ⟨m2, a1, a2, a3⟩ := fl332 (F := F) h7 (by rw [put_c (by decide)]; exact q1)
    refine ⟨m2, a1, a2, frs_trans (frs_put (frs_refl _ _) rfl) (KQ_R a3), fun c j hc hcj => ?_⟩
    rw [a3 c j (by unfold KQ; simp [hc])]
    exact if_neg hcj
/-- how the rest of a prize goes, where there was no fault so far -/
theorem tail2 {F e : Nat} {tp : Nat → Int} {cp n p : Nat} {x m : St} (hcp : cp = 80 ∨ cp = 88) (hn : n < 8) (h : SYN e tp p x m) (ha : x (cp + 2) n = 0) (hF : 330 ≤ F) : ∃ x2 m2, tailX F cp n x = some x2 ∧ tailM F n m = some m2 ∧ frs (XR cp) x x2 ∧ frs MR m m2 ∧ ((∃ p2, SYN e tp p2 x2 m2 ∧ m2 0 52 = m 0 52 + 1 ∧ x2 (cp + 2) n = m2 44 n ∧ 0 ≤ m2 44 n ∧ m2 44 n ≤ 1 ∧ (∀ c j, ¬ c = 41 → ¬ (c = cp + 2 ∧ j = n) → x2 c j = x c j) ∧ ∀ c j, ¬ c = 0 → ¬ (c = 44 ∧ j = n) → m2 c j = m c j) ∨ FLT e tp x2 m2) := by
  have e41 : x 41 1 = 0 := h.2.2.2.2.1
  have e49 : m 0 49 = 0 := h.2.2.2.2.2.1
  obtain ⟨b, w1, w2, w3⟩ := word2 (F := F) h (cs := 1006) (n := 5) (by omega) rfl (by omega)
  unfold tailX tailM
  rw [if_pos (by rw [e41]; decide), if_pos (by rw [e49]; decide), sp_alone, w1]
  simp only [Option.bind_some]
  rw [w2]
  simp only [Option.bind_some, gd_yes (inbN (show n < 9 by omega) (by decide)), gd_yes (inbN hn (by decide)), ix_nat (show n < 2147483648 by omega), put_eq]
  cases b with
  | false =>
    rw [if_pos (b01_0.mpr Bool.false_ne_true), show nz (b01 (false = true)) = 0 by decide, if_pos (by decide)]
    have hS2 : SYN e tp p x (put m 44 n 0) := SYN_cong h (fun _ => rfl) (fun _ => rfl) (fun j => put_c (by decide)) (fun j => put_c (by decide))
    obtain ⟨x2, m2, s1, s2, s3, s4, s5⟩ := stop2 (F := F) hS2 (by omega)
    refine ⟨x2, m2, by unfold b_Read_readPrize_95; rw [s1]; rfl, s4, KNX_R s2, frs_trans (frs_put (frs_refl _ _) rfl) s3, ?_⟩
    rcases s5 with ⟨p2, t1, t2, t3⟩ | t
    · have e44 : m2 44 n = 0 := by rw [t3 44 n (by decide), put_eq]
      have exn : x2 (cp + 2) n = 0 := by rw [s2 (cp + 2) n (by unfold KNX; simp; omega)]; exact ha
      refine .inl ⟨p2, t1, by rw [t2, put_c (by decide)], by rw [exn, e44], by rw [e44]; decide, by rw [e44]; decide, fun c j hc _ => s2 c j (by unfold KNX; simp [hc]), fun c j hc hcj => ?_⟩
      rw [t3 c j hc]
      exact if_neg hcj
    · exact .inr t
  | true =>
    rw [if_neg (fun q => b01_0.mp q rfl), show nz (b01 (true = true)) = 1 by decide, if_neg (by decide), nz_1]
    have p41 : ∀ j, (put x (cp + 2) n 1) 41 j = x 41 j := fun j => put_c (by omega)
    have p42 : ∀ j, (put x (cp + 2) n 1) 42 j = x 42 j := fun j => put_c (by omega)
    have hS2 : SYN e tp p (put x (cp + 2) n 1) (put m 44 n 1) := SYN_cong h p41 p42 (fun j => put_c (by decide)) (fun j => put_c (by decide))
    obtain ⟨a, r, hh⟩ := syn_hand hS2
    obtain ⟨x1, m1, s1, s2, s3, s4, s5, s6⟩ := step2 (F := F) hS2.1 hS2.2.1 hS2.2.2.2.2.1 hS2.2.2.2.2.2.1 hh.2.2.2.1 hh.2.2.1 hh.2.2.2.2.2.1 (by omega)
    rw [s1, s2]
    simp only [Option.bind_some]
    have fx : frs (XR cp) x x1 := frs_trans (frs_put (frs_refl _ _) (by unfold XR; simp)) (KNX_R s3)
    have fm : frs MR m m1 := frs_trans (frs_put (frs_refl _ _) rfl) (KQ_R (KN_Q s4))
    rcases s6 with s6 | s6
    · obtain ⟨x2, m2, t1, t2, t3, t4, t5⟩ := stop2 (F := F) s6 (by omega)
      refine ⟨x2, m2, by unfold b_Read_readPrize_95; rw [t1]; rfl, t4, frs_trans fx (KNX_R t2), frs_trans fm t3, ?_⟩
      rcases t5 with ⟨p2, u1, u2, u3⟩ | t
      · have e44 : m2 44 n = 1 := by rw [u3 44 n (by decide), s4 44 n rfl, put_eq]
        have exn : x2 (cp + 2) n = 1 := by rw [t2 (cp + 2) n (by unfold KNX; simp; omega), s3 (cp + 2) n (by unfold KNX; simp; omega), put_eq]
        refine .inl ⟨p2, u1, by rw [u2, s4 0 52 rfl, put_c (by decide)], by rw [exn, e44], by rw [e44]; decide, by rw [e44]; decide, fun c j hc hcj => ?_, fun c j hc hcj => ?_⟩
        · rw [t2 c j (by unfold KNX; simp [hc]), s3 c j (by unfold KNX; simp [hc])]
          exact if_neg hcj
        · rw [u3 c j hc, s4 c j (by unfold KN; simp [hc])]
          exact if_neg hcj
      · exact .inr t
    · obtain ⟨m2, t1, t2, t3⟩ := fl332 (F := F) s6 s5
      refine ⟨x1, m2, ?_, t1, fx, frs_trans fm (KQ_R t3), .inr t2⟩
      unfold b_Read_readPrize_95
      rw [f_takeStop ⟨s6.2.2.2.1, s6.2.2.2.2.1⟩]
      rfl
