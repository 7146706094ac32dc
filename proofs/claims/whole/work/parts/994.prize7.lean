/-- how the reading of all prizes ends -/
def REND (F : Nat) (cp : Nat) (x m : St) (r1 : Option St) (r2 : Option (Int × St)) : Prop := ∃ x2 m2, r1 = some x2 ∧ r2 = b_M_prizes_110 F m2 ∧ frs (XR cp) x x2 ∧ frs MR m m2 ∧ ((x2 41 1 = 0 ∧ m2 0 49 = 0 ∧ ∃ n : Nat, n ≤ 8 ∧ x2 cp 0 = n ∧ m2 0 52 = n ∧ ∀ i, i < n → ROW cp i x2 m2) ∨ (1 ≤ x2 41 1 ∧ x2 41 1 ≤ 5 ∧ m2 0 49 = x2 41 1 ∧ m2 0 50 = x2 41 2))
theorem rX_exit {F cp n : Nat} {x : St} {i : Int} (h : 1 ≤ x 41 1 ∧ x 41 1 ≤ 5) : l_Read_read_37 cp F (fun s8 => some s8) (n + 1) x i = some x := by
  show b_Read_read_37 cp F (l_Read_read_37 cp F (fun s8 => some s8) n) (fun s8 => some s8) x i = some x
  unfold b_Read_read_37
  rw [if_neg (show ¬ w32 (x 41 1) = 0 by rw [wid (a := x 41 1) (by omega) (by omega)]; omega), ite_self, ite_self]
def k92 (F : Nat) : St → Option (Int × St) := fun s11 => b_M_prizes_92 F s11
/-- a fault ends the reference's reading too -/
theorem rM_exit {F n e : Nat} {tp : Nat → Int} {x m : St} (h : FLT e tp x m) : ∃ m2, l_M_prizes_57 F (k92 F) (n + 1) m = b_M_prizes_110 F m2 ∧ frs MR m m2 ∧ m2 0 49 = x 41 1 ∧ m2 0 50 = x 41 2 := by
  show ∃ m2, b_M_prizes_57 F (l_M_prizes_57 F (k92 F) n) (k92 F) m = b_M_prizes_110 F m2 ∧ _
  unfold b_M_prizes_57
  obtain ⟨h1, h2, h3, h4, h5, h6⟩ := h
  rcases h6 with ⟨q1, q2⟩ | ⟨q1, q2, q3, q4⟩
  · have c : ¬ w32 (m 0 49) = 0 := by rw [q1, wid (a := x 41 1) (by omega) (by omega)]; omega
    rw [if_neg c]
    refine ⟨m, ?_, frs_refl _ _, q1, q2⟩
    unfold k92 b_M_prizes_92
    rw [if_neg c]
  · have c : w32 (m 0 49) = 0 := by rw [q1]; decide
    rw [if_pos c, sp_prize]
    simp only [Option.bind_some]
    rw [wordM_no (s := m) (by rw [q2]; decide) (by rw [q2]; decide)]
    simp only [Option.bind_some]
    rw [if_pos (by decide)]
    refine ⟨put (put m 0 49 1) 0 50 (m 0 82), ?_, KQ_R (frs_put (frs_put (frs_refl _ _) rfl) rfl), ?_, ?_⟩
    · unfold k92 b_M_prizes_92
      rw [if_pos c, if_neg (by rw [q2]; decide), wrong_eq q1 (by rw [q2]; decide), if_pos q2]
      rfl
    · show (1 : Int) = x 41 1; rw [q3]
    · show m 0 82 = x 41 2; rw [q4]
theorem readStep {F e : Nat} {tp : Nat → Int} {cp : Nat} (hcp : cp = 80 ∨ cp = 88) (hF : 340 ≤ F) {n n1 n2 : Nat} {x m : St} {p : Nat} (hn : n ≤ 8) (hS : SYN e tp p x m) (h0 : x cp 0 = n) (h52 : m 0 52 = n) (hR : ∀ i, i < n → ROW cp i x m) (rec : n < 8 → ∀ (x3 m3 : St) (p3 : Nat), SYN e tp p3 x3 m3 → x3 cp 0 = ((n + 1 : Nat) : Int) → m3 0 52 = ((n + 1 : Nat) : Int) → (∀ i, i < n + 1 → ROW cp i x3 m3) → REND F cp x3 m3 (l_Read_read_37 cp F (fun s8 => some s8) (n1 + 1) x3 ((n + 1 : Nat) : Int)) (l_M_prizes_57 F (k92 F) (n2 + 1) m3)) : REND F cp x m (l_Read_read_37 cp F (fun s8 => some s8) (n1 + 2) x (n : Int)) (l_M_prizes_57 F (k92 F) (n2 + 2) m) := by
  show REND F cp x m (b_Read_read_37 cp F (l_Read_read_37 cp F (fun s8 => some s8) (n1 + 1)) (fun s8 => some s8) x (n : Int)) (b_M_prizes_57 F (l_M_prizes_57 F (k92 F) (n2 + 1)) (k92 F) m)
  unfold b_Read_read_37 b_M_prizes_57
  have e41 : x 41 1 = 0 := hS.2.2.2.2.1
  have e49 : m 0 49 = 0 := hS.2.2.2.2.2.1
  obtain ⟨a, r, hh⟩ := syn_hand hS
  obtain ⟨b, w1, w2, w3⟩ := word2 (F := F) hS (cs := 1000) (n := 5) (by omega) rfl (by omega)
  rw [if_neg (show ¬ w32 8 < w32 (n : Int) by rw [show w32 8 = 8 by decide, wnat (by omega)]; omega), if_pos (show w32 (m 0 49) = 0 by rw [e49]; decide), sp_prize]
  simp only [Option.bind_some]
  rw [w2]
  simp only [Option.bind_some]
  have h5 : (m 0 81 = 0 ∧ x 41 5 = 0) ∨ ((1 ≤ m 0 81 ∧ m 0 81 ≤ 3) ∧ 1 ≤ x 41 5 ∧ x 41 5 ≤ 3) := by
    rcases hh.2.2.2.2.2.2 with ⟨q1, q2⟩ | ⟨q1, q2, _⟩ | ⟨q1, q2, _⟩ | ⟨q1, q2⟩
    · exact .inl ⟨q1, q2⟩
    · right; omega
    · right; omega
    · right; omega
  rcases h5 with ⟨q1, q2⟩ | ⟨q1, q2⟩
  · have hb : ¬ b = true := fun q => by have := w3 q; omega
    rw [if_pos (b01_0.mpr hb), if_pos (show w32 (x 41 5) = 0 by rw [q2]; decide)]
    refine ⟨x, m, rfl, ?_, frs_refl _ _, frs_refl _ _, .inl ⟨e41, e49, n, hn, h0, h52, hR⟩⟩
    unfold k92 b_M_prizes_92
    rw [if_pos (show w32 (m 0 49) = 0 by rw [e49]; decide), if_pos (by rw [q1]; decide)]
  · rw [if_neg (show ¬ w32 (x 41 5) = 0 by rw [wid (a := x 41 5) (by omega) (by omega)]; omega), if_pos (show w32 (x 41 1) = 0 by rw [e41]; decide)]
    cases b with
    | false =>
      rw [if_pos (b01_0.mpr Bool.false_ne_true)]
      obtain ⟨b1, b2⟩ := flt_mk hS (k := 2) (by decide)
      have hX : f_Read_readPrize F cp x = some (put (put x 41 1 2) 41 2 (x 41 6)) := by
        unfold f_Read_readPrize
        rw [w1]
        simp only [Option.bind_some]
        rw [if_pos (b01_0.mpr Bool.false_ne_true), b1]
        rfl
      rw [hX]
      simp only [Option.bind_some]
      rw [rX_exit ⟨b2.2.2.2.1, b2.2.2.2.2.1⟩]
      refine ⟨_, put (put m 0 49 2) 0 50 (m 0 82), rfl, ?_, KNX_R (frs_put (frs_put (frs_refl _ _) rfl) rfl), KQ_R (frs_put (frs_put (frs_refl _ _) rfl) rfl), .inr ⟨b2.2.2.2.1, b2.2.2.2.2.1, rfl, ?_⟩⟩
      · unfold k92 b_M_prizes_92
        rw [if_pos (show w32 (m 0 49) = 0 by rw [e49]; decide), if_neg (by rw [wid (a := m 0 81) (by omega) (by omega)]; omega), wrong_eq e49 (by omega), if_neg (by omega)]
        rfl
      · show m 0 82 = x 41 6
        rw [hh.1, hh.2.1]
    | true =>
      rw [if_neg (fun q => b01_0.mp q rfl)]
      have fl : ∀ {x2 m2 : St}, f_Read_readPrize F cp x = some x2 → f_M_readPrize F m = some m2 → frs (XR cp) x x2 → frs MR m m2 → FLT e tp x2 m2 → REND F cp x m ((f_Read_readPrize F cp x).bind fun q4 => l_Read_read_37 cp F (fun s8 => some s8) (n1 + 1) q4 ((n : Int) + 1)) ((f_M_readPrize F m).bind fun q5 => l_M_prizes_57 F (k92 F) (n2 + 1) q5) := by
        intro x2 m2 a1 a2 a3 a4 a5
        rw [a1, a2]
        simp only [Option.bind_some]
        rw [rX_exit ⟨a5.2.2.2.1, a5.2.2.2.2.1⟩]
        obtain ⟨m3, c1, c2, c3, c4⟩ := rM_exit (F := F) (n := n2) a5
        exact ⟨x2, m3, rfl, c1, a3, frs_trans a4 c2, .inr ⟨a5.2.2.2.1, a5.2.2.2.2.1, c3, c4⟩⟩
      by_cases c8 : n = 8
      · subst c8
        obtain ⟨a1, a2, a3⟩ := prize8 (F := F) hS w1 h0 h52
        exact fl a1 a2 (KNX_R (frs_put (frs_put (frs_refl _ _) rfl) rfl)) (KQ_R (frs_put (frs_put (frs_refl _ _) rfl) rfl)) a3
      · obtain ⟨x2, m2, a1, a2, a3, a4, a5⟩ := prize2 (F := F) hcp (show n < 8 by omega) hS w1 h0 h52 hF
        rcases a5 with ⟨p2, c1, c2, c3, c4, c5, c6⟩ | a5
        · rw [a1, a2]
          simp only [Option.bind_some]
          rw [show (n : Int) + 1 = ((n + 1 : Nat) : Int) by omega]
          obtain ⟨x4, m4, d1, d2, d3, d4, d5⟩ := rec (by omega) x2 m2 p2 c1 c2 c3 (fun i hi => by
            by_cases ci : i = n
            · rw [ci]; exact c4
            · have hri := hR i (by omega)
              unfold ROW at *
              rw [c5 (cp + 4) i (by omega) (by omega) (by omega), c5 (cp + 5) i (by omega) (by omega) (by omega), c5 (cp + 6) i (by omega) (by omega) (by omega), c5 (cp + 7) i (by omega) (by omega) (by omega), c5 (cp + 1) i (by omega) (by omega) (by omega), c5 (cp + 2) i (by omega) (by omega) (by omega), c6 39 i (by omega) (by omega) (by omega), c6 40 i (by omega) (by omega) (by omega), c6 41 i (by omega) (by omega) (by omega), c6 42 i (by omega) (by omega) (by omega), c6 43 i (by omega) (by omega) (by omega), c6 44 i (by omega) (by omega) (by omega)]
              exact hri)
          exact ⟨x4, m4, d1, d2, frs_trans a3 d3, frs_trans a4 d4, d5⟩
        · exact fl a1 a2 a3 a4 a5
theorem read2 {F e : Nat} {tp : Nat → Int} {cp : Nat} (hcp : cp = 80 ∨ cp = 88) (hF : 340 ≤ F) : ∀ (d n n1 n2 : Nat) (x m : St) (p : Nat), n + d = 8 → d ≤ n1 → d ≤ n2 → SYN e tp p x m → x cp 0 = n → m 0 52 = n → (∀ i, i < n → ROW cp i x m) → REND F cp x m (l_Read_read_37 cp F (fun s8 => some s8) (n1 + 2) x (n : Int)) (l_M_prizes_57 F (k92 F) (n2 + 2) m) := by
  intro d
  induction d with
  | zero =>
    intro n n1 n2 x m p hd hn1 hn2 hS h0 h52 hR
    exact readStep hcp hF (by omega) hS h0 h52 hR (fun q => by omega)
  | succ d ih =>
    intro n n1 n2 x m p hd hn1 hn2 hS h0 h52 hR
    obtain ⟨n1, rfl⟩ : ∃ k, n1 = k + 1 := ⟨n1 - 1, by omega⟩
    obtain ⟨n2, rfl⟩ : ∃ k, n2 = k + 1 := ⟨n2 - 1, by omega⟩
    exact readStep hcp hF (by omega) hS h0 h52 hR (fun q x3 m3 p3 a1 a2 a3 a4 => ih (n + 1) n1 n2 x3 m3 p3 (by omega) (by omega) (by omega) a1 a2 a3 a4)
