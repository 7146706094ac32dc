def addE (cp n : Nat) (x : St) : St := put (put (put (put (put (put x (cp + 4 + 0) n (-1)) (cp + 4 + 1) n (-1)) (cp + 4 + 2) n (-1)) (cp + 4 + 3) n (-1)) (cp + 2) n 0) cp 0 ((n : Int) + 1)
theorem addE_o {cp n : Nat} {x : St} {c j : Nat} (h : c < cp ∨ cp + 8 ≤ c) : addE cp n x c j = x c j := by
  unfold addE
  rw [put_c (by omega), put_c (by omega), put_c (by omega), put_c (by omega), put_c (by omega), put_c (by omega)]
theorem addE_j {cp n : Nat} {x : St} {c j : Nat} (h : ¬ c = cp) (hj : j ≠ n) : addE cp n x c j = x c j := by
  unfold addE
  rw [put_c h, put_j hj, put_j hj, put_j hj, put_j hj, put_j hj]
theorem addE_0 {cp n : Nat} {x : St} : addE cp n x cp 0 = n + 1 := put_eq _ _ _ _
theorem addE_2 {cp n : Nat} {x : St} : addE cp n x (cp + 2) n = 0 := by
  unfold addE
  rw [put_c (by omega), put_eq]
theorem addE_w {cp n w : Nat} {x : St} (hw : w < 4) : addE cp n x (cp + 4 + w) n = -1 := by
  unfold addE
  rw [put_c (by omega), put_c (by omega)]
  rcases w4 hw with e | e | e | e <;> subst e
  · rw [put_c (by omega), put_c (by omega), put_c (by omega), put_eq]
  · rw [put_c (by omega), put_c (by omega), put_eq]
  · rw [put_c (by omega), put_eq]
  · rw [put_eq]
def addM (n : Nat) (m : St) : St := put (put (put (put (put m 39 n (-1)) 40 n (-1)) 41 n (-1)) 42 n 1) 44 n 0
theorem addM_o {n : Nat} {m : St} {c j : Nat} (h : c < 39) : addM n m c j = m c j := by
  unfold addM
  rw [put_c (by omega), put_c (by omega), put_c (by omega), put_c (by omega), put_c (by omega)]
theorem addM_j {n : Nat} {m : St} {c j : Nat} (hj : j ≠ n) : addM n m c j = m c j := by
  unfold addM
  rw [put_j hj, put_j hj, put_j hj, put_j hj, put_j hj]
theorem addM_w {n w : Nat} {m : St} (hw : w < 4) : addM n m (39 + w) n = if w = 3 then 1 else -1 := by
  unfold addM
  rcases w4 hw with e | e | e | e <;> subst e
  · rw [put_c (by omega), put_c (by omega), put_c (by omega), put_c (by omega), put_eq]; rfl
  · rw [put_c (by omega), put_c (by omega), put_c (by omega), put_eq]; rfl
  · rw [put_c (by omega), put_c (by omega), put_eq]; rfl
  · rw [put_c (by omega), put_eq]; rfl
theorem addM_R {n : Nat} {m : St} : frs MR m (addM n m) := frs_put (frs_put (frs_put (frs_put (frs_put (frs_refl _ _) rfl) rfl) rfl) rfl) rfl
theorem addE_R {cp n : Nat} {x : St} : frs (XR cp) x (addE cp n x) := by
  refine frs_put (frs_put (frs_put (frs_put (frs_put (frs_put (frs_refl _ _) ?_) ?_) ?_) ?_) ?_) ?_ <;> unfold XR <;> simp <;> omega
theorem rpM {F n : Nat} {m : St} (hn : n < 8) (h : m 0 52 = n) : f_M_readPrize F m = (f_M_next F m).bind fun q3 => (f_M_wishOf (addM n q3)).bind fun q14 => l_M_readPrize_70 F (k237 F) F q14.2 (n : Int) 0 q14.1 := by
  have inn : inb (n : Int) 9 := inbN (by omega) (by decide)
  unfold f_M_readPrize
  rw [h, if_neg (by rw [show w32 8 = 8 by decide, wnat (by omega)]; omega)]
  simp only [gd_yes inn, ix_nat (show n < 2147483648 by omega), nz_0]
  rfl
theorem rpX {F cp n : Nat} {x : St} (hcp : cp = 80 ∨ cp = 88) (hn : n < 8) (h0 : x cp 0 = n) (hw : f_Read_isWord F 1000 x = some (b01 (true = true), x)) (hF : 20 ≤ F) : f_Read_readPrize F cp x = (f_Read_step F (addE cp n x)).bind fun q7 => (f_Read_readWishes F cp q7 (n : Int)).bind fun q8 => midX F cp n q8 := by
  unfold f_Read_readPrize
  rw [hw]
  simp only [Option.bind_some]
  rw [if_neg (show ¬ w32 (b01 True) = 0 by decide), if_pos (by rw [h0, show w32 8 = 8 by decide, wnat (by omega)]; omega), addEmpty_eq hcp hn h0 hF]
  simp only [h0, Option.bind_some]
  rfl
/-- a prize more, or the same fault -/
theorem prize2 {F e : Nat} {tp : Nat → Int} {cp n p : Nat} {x m : St} (hcp : cp = 80 ∨ cp = 88) (hn : n < 8) (h : SYN e tp p x m) (hw : f_Read_isWord F 1000 x = some (b01 (true = true), x)) (h0 : x cp 0 = n) (h52 : m 0 52 = n) (hF : 340 ≤ F) : ∃ x2 m2, f_Read_readPrize F cp x = some x2 ∧ f_M_readPrize F m = some m2 ∧ frs (XR cp) x x2 ∧ frs MR m m2 ∧ ((∃ p2, SYN e tp p2 x2 m2 ∧ x2 cp 0 = ((n + 1 : Nat) : Int) ∧ m2 0 52 = ((n + 1 : Nat) : Int) ∧ ROW cp n x2 m2 ∧ (∀ c j, j < n → cp < c → c < cp + 8 → x2 c j = x c j) ∧ ∀ c j, j < n → 39 ≤ c → c ≤ 44 → m2 c j = m c j) ∨ FLT e tp x2 m2) := by
  have aE41 : ∀ j, addE cp n x 41 j = x 41 j := fun j => addE_o (by omega)
  have aE42 : ∀ j, addE cp n x 42 j = x 42 j := fun j => addE_o (by omega)
  have hS1 : SYN e tp p (addE cp n x) m := SYN_cong h aE41 aE42 (fun _ => rfl) (fun _ => rfl)
  obtain ⟨a, r, hh⟩ := syn_hand hS1
  obtain ⟨x1, m1, s1, s2, s3, s4, s5, s6⟩ := step2 (F := F) hS1.1 hS1.2.1 hS1.2.2.2.2.1 hS1.2.2.2.2.2.1 hh.2.2.2.1 hh.2.2.1 hh.2.2.2.2.2.1 (by omega)
  rw [rpM hn h52, rpX hcp hn h0 hw (by omega), s1, s2]
  simp only [Option.bind_some]
  unfold f_Read_readWishes
  have fx1 : frs (XR cp) x x1 := frs_trans addE_R (KNX_R s3)
  have fm1 : frs MR m (addM n m1) := frs_trans (KQ_R (KN_Q s4)) addM_R
  have b0 : ∀ j, addM n m1 0 j = m1 0 j := fun j => addM_o (by omega)
  have b32 : ∀ j, addM n m1 32 j = m1 32 j := fun j => addM_o (by omega)
  have k3 : ∀ c j, ¬ c = 41 → x1 c j = addE cp n x c j := fun c j hc => s3 c j (by unfold KNX; simp [hc])
  have k4 : ∀ c j, ¬ c = 0 → m1 c j = m c j := fun c j hc => s4 c j (by unfold KN; simp [hc])
  rcases s6 with s6 | s6
  · have hS2 : SYN e tp r x1 (addM n m1) := SYN_cong s6 (fun _ => rfl) (fun _ => rfl) b0 b32
    obtain ⟨w, w1, w2, w3, w5⟩ := wish2 (F := F) hS2 (by omega)
    rw [w1, w2]
    simp only [Option.bind_some]
    have ct0 : fb_ct (fun _ => false) 4 = 0 := fb_ct_zero.mpr (fun _ _ => rfl)
    have hWR : WR cp n (fun _ => false) x1 (addM n m1) := by
      intro v hv
      refine ⟨fun _ => ⟨by rw [k3 _ _ (by omega), addE_w hv], addM_w hv⟩, fun q => absurd q Bool.false_ne_true⟩
    have hE := wishes2 (F := F) (e := e) (tp := tp) hcp hn (by omega) 4 (fun _ => false) F F x1 (addM n m1) r w 0 (by rw [ct0]) (by omega) (by omega) hS2 hWR (fun k _ => bt_0 k) w3 w5
    rw [ct0] at hE
    obtain ⟨x3, r1, r2, r3⟩ := hE
    rw [show l_Read_readWishes_8 cp F (fun s2 => some s2) F x1 (n : Int) w 0 = some x3 from r1]
    simp only [Option.bind_some]
    have fx3 : frs (XR cp) x x3 := frs_trans fx1 (XW_R r2)
    rcases r3 with ⟨m4, p4, sn, q1, q2, q3, q4⟩ | ⟨m4, q1, q2, q3⟩
    · have ha : x3 (cp + 2) n = 0 := by
        rw [r2 (cp + 2) n (by unfold XW KNX; simp; omega), k3 _ _ (by omega), addE_2]
      obtain ⟨x5, m5, u1, u2, u3, u4, u5⟩ := mid2 (F := F) hcp hn q3 ha (by omega)
      refine ⟨x5, m5, u1, by rw [q1]; exact u2, frs_trans fx3 u3, frs_trans (frs_trans fm1 (MW_R q2)) u4, ?_⟩
      rcases u5 with ⟨p5, v1, v2, v3, v4, v5, v6⟩ | u
      · refine .inl ⟨p5, v1, ?_, ?_, ?_, ?_, ?_⟩
        · rw [v5 cp 0 (by omega) (by omega), r2 cp 0 (by unfold XW KNX; simp), k3 _ _ (by omega), addE_0]
          rfl
        · rw [v2, q2 0 52 rfl, b0, s4 0 52 rfl, h52]
          omega
        · refine ROW_of (sn := sn) ?_ v3 v4
          intro k hk
          rw [v5 (cp + 4 + k) n (by omega) (by omega), v6 (39 + k) n (by omega) (by omega)]
          exact q4 k hk
        · intro c j hj hc1 hc2
          rw [v5 c j (by omega) (by omega), r2 c j (by unfold XW KNX; simp; omega), k3 _ _ (by omega), addE_j (by omega) (by omega)]
        · intro c j hj hc1 hc2
          rw [v6 c j (by omega) (by omega), q2 c j (by unfold MW KQ; simp; omega), addM_j (by omega), k4 _ _ (by omega)]
      · exact .inr u
    · obtain ⟨x5, u1, u2, u3⟩ := fl_mid (F := F) (n := n) hcp hn q3 (by omega)
      exact ⟨x5, m4, u1, q1, frs_trans fx3 u2, frs_trans fm1 (MW_R q2), .inr u3⟩
  · have hF2 : FLT e tp x1 (addM n m1) := FLT_cong s6 (fun _ => rfl) (fun _ => rfl) b0 b32
    have hr : 1 ≤ x1 41 1 ∧ x1 41 1 ≤ 5 := ⟨s6.2.2.2.1, s6.2.2.2.2.1⟩
    have h81 : m1 0 81 = 4 := by
      rcases s6.2.2.2.2.2 with ⟨q, _⟩ | ⟨_, q, _⟩
      · omega
      · exact q
    obtain ⟨w, w1, _, _⟩ := f_wish (F := F) s6.1 s6.2.2.1 (by omega)
    rw [w1, wishOf_no (m := addM n m1) (by rw [b0, h81]; decide) (by rw [b0, h81]; decide)]
    simp only [Option.bind_some]
    obtain ⟨f, rfl⟩ : ∃ f, F = f + 1 := ⟨F - 1, by omega⟩
    rw [wX_exit hr, wM_exit]
    simp only [Option.bind_some]
    obtain ⟨x5, u1, u2, u3⟩ := fl_mid (F := f + 1) (n := n) hcp hn hF2 (by omega)
    obtain ⟨m5, v1, v2, v3⟩ := fl237 (F := f + 1) (pr := n) u3
    exact ⟨x5, m5, u1, v1, frs_trans fx1 u2, frs_trans fm1 (KQ_R v3), .inr v2⟩
/-- a prize too many -/
theorem prize8 {F e : Nat} {tp : Nat → Int} {cp p : Nat} {x m : St} (h : SYN e tp p x m) (hw : f_Read_isWord F 1000 x = some (b01 (true = true), x)) (h0 : x cp 0 = ((8 : Nat) : Int)) (h52 : m 0 52 = ((8 : Nat) : Int)) : f_Read_readPrize F cp x = some (put (put x 41 1 3) 41 2 (x 41 6)) ∧ f_M_readPrize F m = some (put (put m 0 49 3) 0 50 (m 0 82)) ∧ FLT e tp (put (put x 41 1 3) 41 2 (x 41 6)) (put (put m 0 49 3) 0 50 (m 0 82)) := by
  obtain ⟨b1, b2⟩ := flt_mk h (k := 3) (by decide)
  refine ⟨?_, ?_, b2⟩
  · unfold f_Read_readPrize
    rw [hw]
    simp only [Option.bind_some]
    rw [if_neg (show ¬ w32 (b01 True) = 0 by decide), if_neg (by rw [h0]; decide), b1]
    rfl
  · unfold f_M_readPrize
    rw [if_pos (by rw [h52]; decide), fail_eq h.2.2.2.2.2.1]
    rfl
