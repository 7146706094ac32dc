/-- both hold the same token, that came at p, and there was no fault -/
def SYN (e : Nat) (tp : Nat → Int) (p : Nat) (sx sm : St) : Prop := XTP e tp sx ∧ MTP e tp sm ∧ TKM e tp p sm ∧ TKX e tp p sx ∧ sx 41 1 = 0 ∧ sm 0 49 = 0 ∧ p ≤ e
def HAND (e : Nat) (tp : Nat → Int) (a r : Nat) (sx sm : St) : Prop := sm 0 82 = a ∧ sx 41 6 = a ∧ sm 0 83 = r ∧ sx 41 7 = r ∧ a ≤ r ∧ r ≤ e ∧ ((sm 0 81 = 0 ∧ sx 41 5 = 0) ∨ (sm 0 81 = 1 ∧ sx 41 5 = 1 ∧ (∀ k, a ≤ k → k < r → isLt (tp k) = true) ∧ sm 0 85 = wdc tp a (r - a)) ∨ (sm 0 81 = 2 ∧ sx 41 5 = 2 ∧ r - a ≤ 3 ∧ (∀ k, a ≤ k → k < r → isDg (tp k) = true) ∧ sm 0 84 = NM tp a (r - a)) ∨ (sm 0 81 = 3 ∧ sx 41 5 = 3))
theorem lt_dg {x : Int} (h : isLt x = true) : isDg x = false ∧ ¬ x = 59 := by
  have := isLt_rng h
  unfold isDg
  simp
  omega
theorem dg_rng {x : Int} (h : isDg x = true) : 48 ≤ x ∧ x ≤ 57 := by
  unfold isDg at h
  simpa using h
theorem syn_hand {e : Nat} {tp : Nat → Int} {p : Nat} {sx sm : St} (h : SYN e tp p sx sm) : ∃ a r, HAND e tp a r sx sm := by
  obtain ⟨h1, h2, ⟨h3, h4⟩, ⟨h5, h6⟩, h7, h8, h9⟩ := h
  have ra := run_spec isSp tp (e - p) p
  obtain ⟨a, ha⟩ : ∃ a, a = tka e tp p := ⟨_, rfl⟩
  have hae : a ≤ e := by rw [ha]; unfold tka; omega
  rw [← ha] at h3 h4 h5 h6
  have rl := run_spec isLt tp (e - a) a
  have rd := run_spec isDg tp (e - a) a
  rcases h6 with ⟨_, h6⟩ | ⟨_, _, _, _, h6, _⟩
  · rcases h6 with ⟨x1, x2, x3⟩ | ⟨x1, x2, x3, x4⟩ | ⟨x1, x2, x3, x4⟩ | ⟨x1, x2, x3, x4, x5⟩
    · rcases h4 with ⟨y1, y2, y3⟩ | ⟨y1, _⟩ | ⟨y1, _⟩ | ⟨y1, _⟩
      · exact ⟨a, e, h3, h5, y3, x3, hae, Nat.le_refl e, .inl ⟨y2, x2⟩⟩
      · omega
      · omega
      · omega
    · rcases h4 with ⟨y1, _⟩ | ⟨_, y1, _⟩ | ⟨_, _, y1, _⟩ | ⟨_, y1, y2, y3, y4⟩
      · omega
      · exact absurd x2 (lt_dg y1).2
      · have := dg_rng y1; omega
      · rw [if_pos x2] at y3
        exact ⟨a, a + 1, h3, h5, y4, x4, by omega, by omega, .inr (.inr (.inr ⟨y3, x3⟩))⟩
    · rcases h4 with ⟨y1, _⟩ | ⟨_, y1, y2, y3, y4⟩ | ⟨_, y1, _⟩ | ⟨_, y1, _⟩
      · omega
      · exact ⟨a, _, h3, h5, y3, x4, rl.1, by omega, .inr (.inl ⟨y2, x3, rl.2.2.1, y4⟩)⟩
      · rw [x2] at y1; cases y1
      · rw [x2] at y1; cases y1
    · rcases h4 with ⟨y1, _⟩ | ⟨_, y1, _⟩ | ⟨_, y1, y2, y3, y4, y5⟩ | ⟨_, y1, y2, _⟩
      · omega
      · rw [(lt_dg y1).1] at x2; cases x2
      · rw [if_pos x3] at y3
        exact ⟨a, _, h3, h5, y4, x5, rd.1, by omega, .inr (.inr (.inl ⟨y3, x4, x3, rd.2.2.1, y5⟩))⟩
      · rw [x2] at y2; cases y2
  · omega
def WFX (s : St) : Prop := ∃ a r : Nat, s 41 6 = a ∧ s 41 7 = r ∧ a ≤ r ∧ r ≤ 300 ∧ 0 ≤ s 41 5 ∧ s 41 5 ≤ 3
/-- both have met the same fault; the reference may still have it before it -/
def FLT (e : Nat) (tp : Nat → Int) (sx sm : St) : Prop := XTP e tp sx ∧ MTP e tp sm ∧ WFX sx ∧ 1 ≤ sx 41 1 ∧ sx 41 1 ≤ 5 ∧ ((sm 0 49 = sx 41 1 ∧ sm 0 50 = sx 41 2) ∨ (sm 0 49 = 0 ∧ sm 0 81 = 4 ∧ sx 41 1 = 1 ∧ sx 41 2 = sm 0 82))
theorem hand_wf {e : Nat} {tp : Nat → Int} {a r : Nat} {sx sm : St} (he : e ≤ 300) (h : HAND e tp a r sx sm) : WFX sx := by
  obtain ⟨h1, h2, h3, h4, h5, h6, h7⟩ := h
  refine ⟨a, r, h2, h4, h5, by omega, ?_⟩
  rcases h7 with ⟨_, q⟩ | ⟨_, q, _⟩ | ⟨_, q, _⟩ | ⟨_, q⟩ <;> rw [q] <;> decide
theorem step2 {F e : Nat} {tp : Nat → Int} {r : Nat} {sx sm : St} (hX : XTP e tp sx) (hM : MTP e tp sm) (h1 : sx 41 1 = 0) (h49 : sm 0 49 = 0) (h7 : sx 41 7 = r) (h83 : sm 0 83 = r) (hr : r ≤ e) (hF : 310 ≤ F) : ∃ x2 m2, f_Read_step F sx = some x2 ∧ f_M_next F sm = some m2 ∧ frs KNX sx x2 ∧ frs KN sm m2 ∧ m2 0 49 = 0 ∧ (SYN e tp r x2 m2 ∨ FLT e tp x2 m2) := by
  obtain ⟨x2, e1, f1, t1⟩ := step_eq hX hr h1 h7 hF
  obtain ⟨m2, e2, f2, t2⟩ := next_eq hM hr h83 hF
  have h49b : m2 0 49 = 0 := by rw [f2 0 49 rfl]; exact h49
  refine ⟨x2, m2, e1, e2, f1, f2, h49b, ?_⟩
  have hX2 := XTP_fr hX f1
  have hM2 := MTP_fr hM f2
  by_cases c : x2 41 1 = 0
  · exact .inl ⟨hX2, hM2, t2, t1, c, h49b, hr⟩
  · right
    have he := hX.1
    obtain ⟨t6, t1⟩ := t1
    obtain ⟨t82, t2⟩ := t2
    rcases t1 with ⟨q, _⟩ | ⟨q1, q2, q3, q4, q5, q6, q7, q8⟩
    · exact absurd q c
    · have rd := run_spec isDg tp (e - tka e tp r) (tka e tp r)
      refine ⟨hX2, hM2, ⟨_, _, t6, q8, rd.1, by omega, by rw [q7]; decide, by rw [q7]; decide⟩, by omega, by omega, .inr ⟨h49b, ?_, q5, by rw [q6, t82]⟩⟩
      rcases t2 with ⟨y1, _⟩ | ⟨_, y1, _⟩ | ⟨_, y1, y2, y3, _⟩ | ⟨_, y1, y2, y3, _⟩
      · omega
      · rw [q2] at y1; cases y1
      · rw [if_neg (by have := q4 y2; omega)] at y3; exact y3
      · rw [if_neg q3] at y3; exact y3
/-! the class, once there is a fault -/
theorem f_step {F : Nat} {x : St} (h : 1 ≤ x 41 1 ∧ x 41 1 ≤ 5) : f_Read_step F x = some x := by
  unfold f_Read_step
  rw [if_neg (by rw [wid (a := x 41 1) (by omega) (by omega)]; omega)]
theorem f_blame {x : St} {v : Int} (h : 1 ≤ x 41 1 ∧ x 41 1 ≤ 5) : f_Read_blame x v = some x := by
  unfold f_Read_blame
  rw [if_neg (by rw [wid (a := x 41 1) (by omega) (by omega)]; omega)]
theorem f_word {F e : Nat} {tp : Nat → Int} {x : St} {cs : Nat} (hcs : 1000 ≤ cs ∧ cs < 1007) (hX : XTP e tp x) (hW : WFX x) (hF : 20 ≤ F) : ∃ b : Bool, f_Read_isWord F cs x = some (b01 (b = true), x) := by
  obtain ⟨a, r, w1, w2, w3, w4, w5, w6⟩ := hW
  by_cases c : x 41 5 = 1
  · exact ⟨_, wordX_eq hcs w3 w4 hX.2.2.1 hX.2.2.2 c w1 w2 hF⟩
  · exact ⟨false, wordX_no c ⟨w5, w6⟩⟩
theorem f_wish {F e : Nat} {tp : Nat → Int} {x : St} (hX : XTP e tp x) (hW : WFX x) (hF : 20 ≤ F) : ∃ w : Int, f_Read_wishInHand F x = some (w, x) ∧ -1 ≤ w ∧ w ≤ 3 := by
  unfold f_Read_wishInHand
  obtain ⟨b1, e1⟩ := f_word (F := F) (cs := 1001) (by omega) hX hW hF
  obtain ⟨b2, e2⟩ := f_word (F := F) (cs := 1002) (by omega) hX hW hF
  obtain ⟨b3, e3⟩ := f_word (F := F) (cs := 1003) (by omega) hX hW hF
  obtain ⟨b4, e4⟩ := f_word (F := F) (cs := 1004) (by omega) hX hW hF
  rw [e1]
  simp only [Option.bind_some]
  by_cases c1 : b1 = true
  · rw [if_neg (fun q => b01_0.mp q c1)]; exact ⟨0, rfl, by decide, by decide⟩
  · rw [if_pos (b01_0.mpr c1), e2]
    simp only [Option.bind_some]
    by_cases c2 : b2 = true
    · rw [if_neg (fun q => b01_0.mp q c2)]; exact ⟨1, rfl, by decide, by decide⟩
    · rw [if_pos (b01_0.mpr c2), e3]
      simp only [Option.bind_some]
      by_cases c3 : b3 = true
      · rw [if_neg (fun q => b01_0.mp q c3)]; exact ⟨2, rfl, by decide, by decide⟩
      · rw [if_pos (b01_0.mpr c3), e4]
        simp only [Option.bind_some]
        by_cases c4 : b4 = true
        · rw [if_neg (fun q => b01_0.mp q c4)]; exact ⟨3, rfl, by decide, by decide⟩
        · rw [if_pos (b01_0.mpr c4)]; exact ⟨-1, rfl, by decide, by decide⟩
theorem f_takeWord {F e : Nat} {tp : Nat → Int} {x : St} {cs : Nat} (hcs : 1000 ≤ cs ∧ cs < 1007) (hX : XTP e tp x) (hW : WFX x) (h : 1 ≤ x 41 1 ∧ x 41 1 ≤ 5) (hF : 20 ≤ F) : f_Read_takeWord F cs x = some x := by
  unfold f_Read_takeWord b_Read_takeWord_13
  obtain ⟨b1, e1⟩ := f_word (F := F) hcs hX hW hF
  rw [e1]
  simp only [Option.bind_some, f_blame h, f_step h, ite_self]
theorem f_takeStop {F : Nat} {x : St} (h : 1 ≤ x 41 1 ∧ x 41 1 ≤ 5) : f_Read_takeStop F x = some x := by
  unfold f_Read_takeStop b_Read_takeStop_13
  simp only [Option.bind_some, f_blame h, f_step h, ite_self]
theorem number_loop {F e : Nat} {tp : Nat → Int} {x : St} {x1 x2 : Int} (hX : XTP e tp x) {a r : Nat} (har : a ≤ r) (hr : r ≤ 300) (h7 : x 41 7 = r) {kk : St → Int → Int → Int → Option (Int × St)} (hF : 310 ≤ F) : ∃ v : Int, l_Read_takeNumber_24 F kk F x x1 x2 0 a = kk x x1 x2 v ∧ (r - a ≤ 3 → v = NM tp a (r - a)) := by
  refine loopG (l := fun n (v : Int) y => l_Read_takeNumber_24 F kk n x x1 x2 v (y : Nat)) (N := r) (I := fun y v => a ≤ y ∧ (r - a ≤ 3 → v = NM tp a (y - a))) (G := fun q => ∃ v : Int, q = kk x x1 x2 v ∧ (r - a ≤ 3 → v = NM tp a (r - a))) ?_ ?_ (r - a) a F 0 (by omega) (by omega) ⟨Nat.le_refl a, fun _ => by rw [Nat.sub_self]; rfl⟩
  · intro n y v hy hI next
    show ∃ v2 : Int, b_Read_takeNumber_24 F (l_Read_takeNumber_24 F kk n) kk x x1 x2 v y = kk x x1 x2 v2 ∧ _
    unfold b_Read_takeNumber_24
    rw [if_neg (show ¬ w32 (x 41 7) ≤ w32 (y : Int) by rw [h7, wnat (by omega), wnat (by omega)]; omega), gd_yes (inbN (show y < 300 by omega) (by decide)), ix_nat (by omega), hX.2.2.1, show (y : Int) + 1 = ((y + 1 : Nat) : Int) by omega]
    refine next _ ⟨by omega, fun h3 => ?_⟩
    rw [show y + 1 - a = (y - a) + 1 by omega]
    show v * 10 + (tp y - 48) = if y - a < 3 then 10 * NM tp a (y - a) + tp (a + (y - a)) - 48 else _
    rw [if_pos (by omega), show a + (y - a) = y by omega, hI.2 h3]
    omega
  · intro n v hI
    show ∃ v2 : Int, b_Read_takeNumber_24 F (l_Read_takeNumber_24 F kk n) kk x x1 x2 v r = kk x x1 x2 v2 ∧ _
    unfold b_Read_takeNumber_24
    rw [if_pos (show w32 (x 41 7) ≤ w32 (r : Int) by rw [h7, wnat (by omega)]; omega)]
    exact ⟨v, rfl, hI.2⟩
theorem f_takeNumber {F e : Nat} {tp : Nat → Int} {x : St} {x1 x2 : Int} (hX : XTP e tp x) (hW : WFX x) (h : 1 ≤ x 41 1 ∧ x 41 1 ≤ 5) (hF : 310 ≤ F) : ∃ v, f_Read_takeNumber F x x1 x2 = some (v, x) := by
  obtain ⟨a, r, w1, w2, w3, w4, w5, w6⟩ := hW
  unfold f_Read_takeNumber b_Read_takeNumber_69
  by_cases c : w32 (x 41 5) = w32 2
  · rw [if_pos c, w1]
    obtain ⟨v, hv, _⟩ := number_loop (F := F) (x1 := x1) (x2 := x2) hX w3 w4 w2 hF (kk := fun s3 x1_4 x2_5 x3_6 => (f_H_within s3 x3_6 x1_4 x2_5).bind fun q7 => if w32 q7.1 = 0 then (f_Read_blame q7.2 4).bind fun q9 => (f_Read_step F q9).bind fun q1 => some (x3_6, q1) else (f_Read_step F q7.2).bind fun q1 => some (x3_6, q1))
    rw [hv]
    refine ⟨v, ?_⟩
    have hw : ∃ b, f_H_within x v x1 x2 = some (b, x) := by
      unfold f_H_within
      split
      · exact ⟨_, rfl⟩
      · split
        · exact ⟨_, rfl⟩
        · exact ⟨_, rfl⟩
    obtain ⟨b, hb⟩ := hw
    simp only [hb, Option.bind_some, f_blame h, f_step h, ite_self]
  · rw [if_neg c, f_blame h]
    simp only [Option.bind_some, f_step h]
    exact ⟨0, rfl⟩
/-! the reference's faults -/
theorem fail_eq {m : St} {k : Int} {a : Int} (h : m 0 49 = 0) : f_M_fail m k a = some (put (put m 0 49 k) 0 50 a) := by
  unfold f_M_fail
  rw [if_pos (by rw [h]; decide)]
theorem wrong_eq {m : St} (h : m 0 49 = 0) (hs : 0 ≤ m 0 81 ∧ m 0 81 ≤ 4) : f_M_wrong m = some (put (put m 0 49 (if m 0 81 = 4 then 1 else 2)) 0 50 (m 0 82)) := by
  unfold f_M_wrong b_M_wrong_14
  rw [fail_eq h, fail_eq h, wid (a := m 0 81) (by omega) (by omega), show w32 4 = 4 by decide]
  by_cases c : m 0 81 = 4
  · rw [if_pos c, if_pos c]; rfl
  · rw [if_neg c, if_neg c]; rfl
