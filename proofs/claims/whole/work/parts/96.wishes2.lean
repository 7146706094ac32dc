theorem wishOf_no {m : St} (h : ¬ m 0 81 = 1) (hr : 0 ≤ m 0 81 ∧ m 0 81 ≤ 4) : f_M_wishOf m = some (-1, m) := by
  unfold f_M_wishOf
  have w : ∀ K, f_M_isWord m K = some (0, m) := fun K => wordM_no h hr
  simp only [sp_field, sp_age, sp_school, sp_seen, Option.bind_some, w, show w32 0 = 0 by decide, if_true]
theorem wX_exit {F cp n pr : Nat} {x : St} {w i : Int} (h : 1 ≤ x 41 1 ∧ x 41 1 ≤ 5) : l_Read_readWishes_8 cp F (fun s2 => some s2) (n + 1) x pr w i = some x := by
  show b_Read_readWishes_8 cp F (l_Read_readWishes_8 cp F (fun s2 => some s2) n) (fun s2 => some s2) x pr w i = some x
  unfold b_Read_readWishes_8
  rw [if_neg (show ¬ w32 (x 41 1) = 0 by rw [wid (a := x 41 1) (by omega) (by omega)]; omega), ite_self, ite_self]
def k237 (F : Nat) : St → Int → Option St := fun s15 x1_16 => b_M_readPrize_237 F s15 x1_16
theorem wM_exit {F n pr : Nat} {m : St} {seen : Int} : l_M_readPrize_70 F (k237 F) (n + 1) m pr seen (-1) = b_M_readPrize_237 F m pr := by
  show b_M_readPrize_70 F (l_M_readPrize_70 F (k237 F) n) (k237 F) m pr seen (-1) = _
  unfold b_M_readPrize_70
  rw [if_pos (by decide)]
  rfl
/-- how the reading of the wishes ends -/
def WEND (F e : Nat) (tp : Nat → Int) (cp pr : Nat) (x m : St) (r1 : Option St) (r2 : Option St) : Prop := ∃ x2, r1 = some x2 ∧ frs (XW cp pr) x x2 ∧ ((∃ m2 p2 sn2, r2 = b_M_readPrize_237 F m2 pr ∧ frs (MW pr) m m2 ∧ SYN e tp p2 x2 m2 ∧ WR cp pr sn2 x2 m2) ∨ ∃ m2, r2 = some m2 ∧ frs (MW pr) m m2 ∧ FLT e tp x2 m2)
theorem put_x {cp w pr : Nat} {x : St} {v : Int} (hcp : cp = 80 ∨ cp = 88) (hw : w < 4) : (∀ j, (put x (cp + 4 + w) pr v) 41 j = x 41 j) ∧ ∀ j, (put x (cp + 4 + w) pr v) 42 j = x 42 j := ⟨fun j => put_c (by omega), fun j => put_c (by omega)⟩
theorem put_m {w pr : Nat} {m : St} {v : Int} (hw : w < 4) : (∀ j, (put m (39 + w) pr v) 0 j = m 0 j) ∧ ∀ j, (put m (39 + w) pr v) 32 j = m 32 j := ⟨fun j => put_c (by omega), fun j => put_c (by omega)⟩
/-- once there is a fault, and the number's place is written: the reference goes to the end -/
theorem flEnd {F e : Nat} {tp : Nat → Int} {cp pr w : Nat} (hcp : cp = 80 ∨ cp = 88) (hw : w < 4) {x m : St} {v1 v2 seen : Int} (n : Nat) (h : FLT e tp x m) : ∃ m3, b_M_readPrize_218 F (l_M_readPrize_70 F (k237 F) (n + 1)) (k237 F) (put m (39 + w) pr v2) pr seen = some m3 ∧ frs (MW pr) m m3 ∧ FLT e tp (put x (cp + 4 + w) pr v1) m3 := by
  have px := put_x (x := x) (pr := pr) (v := v1) hcp hw
  have pm := put_m (m := m) (pr := pr) (v := v2) hw
  have h3 : FLT e tp (put x (cp + 4 + w) pr v1) (put m (39 + w) pr v2) := FLT_cong h px.1 px.2 pm.1 pm.2
  obtain ⟨m3, a1, a2, a3⟩ := fl237 (F := F) (pr := pr) h3
  refine ⟨m3, ?_, frs_trans (MW_put (frs_refl _ _) hw) (KQ_W a3), a2⟩
  unfold b_M_readPrize_218
  obtain ⟨g1, g2, g3, g4, g5, g6⟩ := h
  rcases g6 with ⟨q1, q2⟩ | ⟨q1, q2, q3, q4⟩
  · rw [if_neg (by rw [pm.1, q1, wid (a := x 41 1) (by omega) (by omega)]; omega), wM_exit]
    exact a1
  · rw [if_pos (by rw [pm.1, q1]; decide), wishOf_no (by rw [pm.1, q2]; decide) (by rw [pm.1, q2]; decide)]
    simp only [Option.bind_some]
    rw [wM_exit]
    exact a1
/-- one turn -/
theorem wishStep {F e : Nat} {tp : Nat → Int} {cp pr : Nat} (hcp : cp = 80 ∨ cp = 88) (hpr : pr < 8) (hF : 320 ≤ F) {sn : Nat → Bool} {d n1 n2 : Nat} {x m : St} {p : Nat} {w seen : Int} (hS : SYN e tp p x m) (hW : WR cp pr sn x m) (hb : ∀ k, k < 4 → bt seen k = sn k) (hw1 : -1 ≤ w) (hw2 : w ≤ 3) (hi : fb_ct sn 4 ≤ 4) (hn1 : d + 3 ≤ n1) (hn2 : d + 3 ≤ n2) (rec : ∀ k, k < 4 → sn k = false → ∀ (m1 m2 : Nat) (x3 m3 : St) (p3 : Nat) (w3 seen3 : Int), n1 = m1 + 1 → n2 = m2 + 1 → SYN e tp p3 x3 m3 → WR cp pr (fun j => if j = k then true else sn j) x3 m3 → (∀ j, j < 4 → bt seen3 j = (if j = k then true else sn j)) → (-1 ≤ w3 ∧ w3 ≤ 3) → WEND F e tp cp pr x3 m3 (l_Read_readWishes_8 cp F (fun s2 => some s2) m1 x3 pr w3 ((fb_ct sn 4 + 1 : Nat) : Int)) (l_M_readPrize_70 F (k237 F) m2 m3 pr seen3 w3)) : WEND F e tp cp pr x m (l_Read_readWishes_8 cp F (fun s2 => some s2) n1 x pr w (fb_ct sn 4 : Nat)) (l_M_readPrize_70 F (k237 F) n2 m pr seen w) := by
  obtain ⟨m1, rfl⟩ : ∃ m1, n1 = m1 + 1 := ⟨n1 - 1, by omega⟩
  obtain ⟨m2, rfl⟩ : ∃ m2, n2 = m2 + 1 := ⟨n2 - 1, by omega⟩
  obtain ⟨a, r, hh⟩ := syn_hand hS
  have he := hS.1.1
  have e41 : x 41 1 = 0 := hS.2.2.2.2.1
  have e49 : m 0 49 = 0 := hS.2.2.2.2.2.1
  have kk : w32 (-1) = -1 := by decide
  show WEND F e tp cp pr x m (b_Read_readWishes_8 cp F (l_Read_readWishes_8 cp F (fun s2 => some s2) m1) (fun s2 => some s2) x pr w (fb_ct sn 4 : Nat)) (b_M_readPrize_70 F (l_M_readPrize_70 F (k237 F) m2) (k237 F) m pr seen w)
  unfold b_Read_readWishes_8 b_M_readPrize_70
  rw [if_neg (show ¬ w32 4 < w32 ((fb_ct sn 4 : Nat) : Int) by rw [show w32 4 = 4 by decide, wnat (by omega)]; omega)]
  by_cases c : w = -1
  · rw [c, if_pos rfl, if_pos (show w32 (-1) < 0 by decide)]
    exact ⟨x, rfl, frs_refl _ _, .inl ⟨m, p, sn, rfl, frs_refl _ _, hS, hW⟩⟩
  · obtain ⟨k, rfl⟩ : ∃ k : Nat, w = k := ⟨w.toNat, by omega⟩
    have hk : k < 4 := by omega
    have ik : inb (k : Int) 4 := inbN hk (by decide)
    have ip : inb (pr : Int) 8 := inbN hpr (by decide)
    have ixk : ix (k : Int) = k := ix_nat (by omega)
    have ixp : ix (pr : Int) = pr := ix_nat (by omega)
    rw [if_neg (show ¬ w32 (k : Int) = w32 (-1) by rw [kk, wnat (by omega)]; omega), if_pos (show w32 (x 41 1) = 0 by rw [e41]; decide), gd_yes ik, gd_yes ip, if_neg (show ¬ w32 (k : Int) < 0 by rw [wnat (by omega)]; omega), if_pos (show w32 (m 0 49) = 0 by rw [e49]; decide), bitat seen (show k < 32 by omega), show w32 1 = 1 by decide, w_b01, hb k hk, ixk, ixp]
    cases hs : sn k with
    | true =>
      -- told twice
      have z := (hW k hk).2 hs
      have lr := lw_rng hk
      rw [if_neg (show ¬ w32 (x (cp + 4 + k) pr) = w32 (-1) by rw [z.1, kk, wid (a := m (39 + k) pr) (by omega) (by omega)]; omega), if_pos (b01_of rfl)]
      obtain ⟨b1, b2⟩ := flt_mk hS (k := 5) (by decide)
      rw [b1, fail_eq e49]
      simp only [Option.bind_some]
      obtain ⟨m3, rfl⟩ : ∃ m3, m1 = m3 + 1 := ⟨m1 - 1, by omega⟩
      rw [wX_exit (x := put (put x 41 1 5) 41 2 (x 41 6)) (by show (1 : Int) ≤ 5 ∧ (5 : Int) ≤ 5; decide)]
      refine ⟨_, rfl, KNX_W (frs_put (frs_put (frs_refl _ _) rfl) rfl), .inr ⟨put (put m 0 49 5) 0 50 (m 0 82), ?_, KQ_W (frs_put (frs_put (frs_refl _ _) rfl) rfl), b2⟩⟩
      unfold b_M_readPrize_99
      rw [if_neg (show ¬ w32 ((put (put m 0 49 5) 0 50 (m 0 82)) 0 49) ≤ 0 by show ¬ w32 5 ≤ 0; decide)]
    | false =>
      have z := (hW k hk).1 hs
      have lr := lw_rng hk
      rw [if_pos (show w32 (x (cp + 4 + k) pr) = w32 (-1) by rw [z.1]), if_neg (by rw [b01_not Bool.false_ne_true]; decide), M99 hk hpr e49]
      obtain ⟨x1, y1, s1, s2, s3, s4, s5, s6⟩ := step2 (F := F) hS.1 hS.2.1 e41 e49 hh.2.2.2.1 hh.2.2.1 hh.2.2.2.2.2.1 (by omega)
      rw [s1, s2]
      simp only [Option.bind_some, gd_yes ik, gd_yes ip]
      obtain ⟨m3, rfl⟩ : ∃ m3, m1 = m3 + 1 := ⟨m1 - 1, by omega⟩
      obtain ⟨m4, rfl⟩ : ∃ m4, m2 = m4 + 1 := ⟨m2 - 1, by omega⟩
      rcases s6 with s6 | s6
      · obtain ⟨vx, vm, x2, y2, t1, t2, t3, t4, t5⟩ := num2 (F := F) s6 (lo := leastW k) (hi := greatW k) (by omega) (by omega)
        rw [t1, t2]
        simp only [Option.bind_some]
        rcases t5 with ⟨p2, t5, t6, t7, t8⟩ | t5
        · -- a wish more
          rw [t6]
          have px := put_x (x := x2) (pr := pr) (v := vm) hcp hk
          have pm := put_m (m := y2) (pr := pr) (v := vm) hk
          have hS3 : SYN e tp p2 (put x2 (cp + 4 + k) pr vm) (put y2 (39 + k) pr vm) := SYN_cong t5 px.1 px.2 pm.1 pm.2
          obtain ⟨w3, w4a, w5, w6, w7⟩ := wish2 (F := F) hS3 (by omega)
          rw [w4a]
          simp only [Option.bind_some]
          unfold b_M_readPrize_218
          rw [if_pos (show w32 ((put y2 (39 + k) pr vm) 0 49) = 0 by rw [pm.1, t5.2.2.2.2.2.1]; decide), w5]
          simp only [Option.bind_some]
          rw [show ((fb_ct sn 4 : Nat) : Int) + 1 = ((fb_ct sn 4 + 1 : Nat) : Int) by omega]
          have fx : frs (XW cp pr) x (put x2 (cp + 4 + k) pr vm) := XW_put (frs_trans (KNX_W s3) (KNX_W t3)) hk
          have fm : frs (MW pr) m (put y2 (39 + k) pr vm) := MW_put (frs_trans (KQ_W (KN_Q s4)) (KQ_W t4)) hk
          have hW3 : WR cp pr (fun j => if j = k then true else sn j) (put x2 (cp + 4 + k) pr vm) (put y2 (39 + k) pr vm) := by
            intro j hj
            have z3 := hW j hj
            by_cases ej : j = k
            · rw [ej]
              simp only [if_true]
              rw [put_eq, put_eq]
              exact ⟨fun q => absurd q (by decide), fun _ => ⟨rfl, t7, t8⟩⟩
            · simp only [if_neg ej]
              have hx : (put x2 (cp + 4 + k) pr vm) (cp + 4 + j) pr = x (cp + 4 + j) pr := by
                rw [put_c (by omega), t3 (cp + 4 + j) pr (by unfold KNX; simp; omega), s3 (cp + 4 + j) pr (by unfold KNX; simp; omega)]
              have hm : (put y2 (39 + k) pr vm) (39 + j) pr = m (39 + j) pr := by
                rw [put_c (by omega), t4 (39 + j) pr (by unfold KQ; simp), s4 (39 + j) pr (by unfold KN; simp)]
              rw [hx, hm]
              exact z3
          obtain ⟨x5, r1, r2, r3⟩ := rec k hk hs (m3 + 1) (m4 + 1) _ _ p2 w3 (orI seen (shlI 1 k)) rfl rfl hS3 hW3 (fun j hj => by
            rw [bt_set _ (by omega) (by omega), hb j hj]
            by_cases ej : j = k <;> simp [ej]) ⟨w6, w7⟩
          refine ⟨x5, r1, frs_trans fx r2, ?_⟩
          rcases r3 with ⟨y5, p5, sn5, q1, q2, q3, q4⟩ | ⟨y5, q1, q2, q3⟩
          · exact .inl ⟨y5, p5, sn5, q1, frs_trans fm q2, q3, q4⟩
          · exact .inr ⟨y5, q1, frs_trans fm q2, q3⟩
        · have px := put_x (x := x2) (pr := pr) (v := vx) hcp hk
          obtain ⟨w3, w4a, _, _⟩ := f_wish (F := F) (x := put x2 (cp + 4 + k) pr vx) (e := e) (tp := tp) (FLT_cong t5 px.1 px.2 (fun _ => rfl) (fun _ => rfl)).1 (FLT_cong t5 px.1 px.2 (fun _ => rfl) (fun _ => rfl)).2.2.1 (by omega)
          rw [w4a]
          simp only [Option.bind_some]
          rw [wX_exit (by rw [px.1]; exact ⟨t5.2.2.2.1, t5.2.2.2.2.1⟩)]
          obtain ⟨y3, q1, q2, q3⟩ := flEnd (F := F) (pr := pr) (v1 := vx) (v2 := vm) (seen := orI seen (shlI 1 k)) hcp hk m4 t5
          exact ⟨_, rfl, XW_put (frs_trans (KNX_W s3) (KNX_W t3)) hk, .inr ⟨y3, q1, frs_trans (frs_trans (KQ_W (KN_Q s4)) (KQ_W t4)) q2, q3⟩⟩
      · obtain ⟨v, t1⟩ := f_takeNumber (F := F) (x := x1) (x1 := leastW k) (x2 := greatW k) s6.1 s6.2.2.1 ⟨s6.2.2.2.1, s6.2.2.2.2.1⟩ (by omega)
        obtain ⟨v2, y2, u1, u2, u3, u4⟩ := flNum (F := F) (lo := leastW k) (hi := greatW k) s6 s5
        rw [t1, u1]
        simp only [Option.bind_some]
        have px := put_x (x := x1) (pr := pr) (v := v) hcp hk
        obtain ⟨w3, w4a, _, _⟩ := f_wish (F := F) (x := put x1 (cp + 4 + k) pr v) (e := e) (tp := tp) (FLT_cong s6 px.1 px.2 (fun _ => rfl) (fun _ => rfl)).1 (FLT_cong s6 px.1 px.2 (fun _ => rfl) (fun _ => rfl)).2.2.1 (by omega)
        rw [w4a]
        simp only [Option.bind_some]
        rw [wX_exit (by rw [px.1]; exact ⟨s6.2.2.2.1, s6.2.2.2.2.1⟩)]
        obtain ⟨y3, q1, q2, q3⟩ := flEnd (F := F) (pr := pr) (v1 := v) (v2 := v2) (seen := orI seen (shlI 1 k)) hcp hk m4 u2
        exact ⟨_, rfl, XW_put (KNX_W s3) hk, .inr ⟨y3, q1, frs_trans (frs_trans (KQ_W (KN_Q s4)) (KQ_W u3)) q2, q3⟩⟩
theorem wishes2 {F e : Nat} {tp : Nat → Int} {cp pr : Nat} (hcp : cp = 80 ∨ cp = 88) (hpr : pr < 8) (hF : 320 ≤ F) : ∀ (d : Nat) (sn : Nat → Bool) (n1 n2 : Nat) (x m : St) (p : Nat) (w seen : Int), fb_ct sn 4 + d = 4 → d + 3 ≤ n1 → d + 3 ≤ n2 → SYN e tp p x m → WR cp pr sn x m → (∀ k, k < 4 → bt seen k = sn k) → -1 ≤ w → w ≤ 3 → WEND F e tp cp pr x m (l_Read_readWishes_8 cp F (fun s2 => some s2) n1 x pr w (fb_ct sn 4 : Nat)) (l_M_readPrize_70 F (k237 F) n2 m pr seen w) := by
  intro d
  induction d with
  | zero =>
    intro sn n1 n2 x m p w seen hd hn1 hn2 hS hW hb hw1 hw2
    exact wishStep (d := 0) hcp hpr hF hS hW hb hw1 hw2 (by omega) hn1 hn2 (fun k hk hs => by
      have h4 : fb_ct sn 4 = 4 := by omega
      rw [fb_ct_all.mp h4 k hk] at hs
      cases hs)
  | succ d ih =>
    intro sn n1 n2 x m p w seen hd hn1 hn2 hS hW hb hw1 hw2
    exact wishStep (d := d + 1) hcp hpr hF hS hW hb hw1 hw2 (by omega) hn1 hn2 (fun k hk hs m1 m2 x3 m3 p3 w3 seen3 a1 a2 a3 a4 a5 a6 => by
      have e := fb_ct_upd sn true hk
      rw [hs] at e
      have e2 : fb_ct (fun j => if j = k then true else sn j) 4 = fb_ct sn 4 + 1 := by simpa using e
      have := ih (fun j => if j = k then true else sn j) m1 m2 x3 m3 p3 w3 seen3 (by omega) (by omega) (by omega) a3 a4 a5 a6.1 a6.2
      rw [e2] at this
      exact this)
