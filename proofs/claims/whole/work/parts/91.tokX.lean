def XTP (e : Nat) (tp : Nat → Int) (s : St) : Prop := e ≤ 300 ∧ s 41 4 = e ∧ (∀ k, s 42 k = tp k) ∧ ∀ k, -128 ≤ tp k ∧ tp k ≤ 127
def KNX (c j : Nat) : Bool := c == 41 && (j == 1 || j == 2 || j == 5 || j == 6 || j == 7)
theorem XTP_fr {e : Nat} {tp : Nat → Int} {s t : St} (h : XTP e tp s) (f : frs KNX s t) : XTP e tp t := by
  obtain ⟨h1, h2, h3, h4⟩ := h
  exact ⟨h1, by rw [f 41 4 rfl]; exact h2, fun k => by rw [f 42 k rfl]; exact h3 k, h4⟩
theorem endRun_eq {F e : Nat} {tp : Nat → Int} {s : St} (h : XTP e tp s) {a : Nat} (ha : a ≤ e) (h6 : s 41 6 = a) {lo hi : Int} {f : Int → Bool} (hlo : 0 ≤ lo ∧ lo ≤ 127) (hhi : 0 ≤ hi ∧ hi ≤ 127) (hf : ∀ x, f x = (decide (lo ≤ x) && decide (x ≤ hi))) (hF : 310 ≤ F) : f_Read_endOfRun F s lo hi = some (((run f tp (e - a) a : Nat) : Int), s) := by
  have hr := run_spec f tp (e - a) a
  obtain ⟨r, hrd⟩ : ∃ r, r = run f tp (e - a) a := ⟨_, rfl⟩
  rw [← hrd] at hr ⊢
  obtain ⟨h1, h2, h3, h4⟩ := h
  unfold f_Read_endOfRun
  rw [h6]
  have wl : w32 lo = lo := wid (by omega) (by omega)
  have wh : w32 hi = hi := wid (by omega) (by omega)
  refine loopG (l := fun n (_ : Unit) x => l_Read_endOfRun_5 F (fun s1 x3_2 => some (x3_2, s1)) n s lo hi (x : Nat)) (N := r) (I := fun x _ => a ≤ x) (G := fun q => q = some (((r : Nat) : Int), s)) ?_ ?_ (r - a) a F () (by omega) (by omega) (Nat.le_refl a)
  · intro n x _ hx hI next
    have hl := hr.2.2.1 x hI hx
    have rg := h4 x
    show b_Read_endOfRun_5 F (l_Read_endOfRun_5 F _ n) _ s lo hi x = _
    unfold b_Read_endOfRun_5
    have ix1 : inb (x : Int) 300 := inbN (show x < 300 by omega) (by decide)
    rw [hf] at hl
    have hl2 := (Bool.and_eq_true _ _).mp hl
    have q1 := of_decide_eq_true hl2.1
    have q2 := of_decide_eq_true hl2.2
    rw [if_neg (show ¬ w32 (s 41 4) ≤ w32 (x : Int) by rw [h2, wnat (by omega), wnat (by omega)]; omega), gd_yes ix1, gd_yes ix1, ix_nat (by omega), h3, wl, wh, wid (a := tp x) (by omega) (by omega), if_neg (by omega), if_neg (by omega), show (x : Int) + 1 = ((x + 1 : Nat) : Int) by omega]
    exact next () (by omega)
  · intro n _ hI
    have rg := h4 r
    show b_Read_endOfRun_5 F (l_Read_endOfRun_5 F _ n) _ s lo hi r = _
    unfold b_Read_endOfRun_5
    by_cases c : r < e
    · have hn := hr.2.2.2 (by omega)
      have ix1 : inb (r : Int) 300 := inbN (show r < 300 by omega) (by decide)
      rw [if_neg (show ¬ w32 (s 41 4) ≤ w32 (r : Int) by rw [h2, wnat (by omega), wnat (by omega)]; omega), gd_yes ix1, gd_yes ix1, ix_nat (by omega), h3, wl, wh, wid (a := tp r) (by omega) (by omega)]
      by_cases c1 : tp r < lo
      · rw [if_pos c1]
      · rw [if_neg c1, if_pos ?_]
        rw [hf, decide_eq_true (show lo ≤ tp r by omega)] at hn
        have : ¬ tp r ≤ hi := by simpa using hn
        omega
    · rw [if_pos (show w32 (s 41 4) ≤ w32 (r : Int) by rw [h2, wnat (by omega), wnat (by omega)]; omega)]
/-- what the class holds in hand -/
def TKX (e : Nat) (tp : Nat → Int) (p : Nat) (t : St) : Prop := t 41 6 = (tka e tp p : Nat) ∧ ((t 41 1 = 0 ∧ ((tka e tp p = e ∧ t 41 5 = 0 ∧ t 41 7 = (e : Nat)) ∨ (tka e tp p < e ∧ tp (tka e tp p) = 59 ∧ t 41 5 = 3 ∧ t 41 7 = ((tka e tp p + 1 : Nat) : Int)) ∨ (tka e tp p < e ∧ isLt (tp (tka e tp p)) = true ∧ t 41 5 = 1 ∧ t 41 7 = (run isLt tp (e - tka e tp p) (tka e tp p) : Nat)) ∨ (tka e tp p < e ∧ isDg (tp (tka e tp p)) = true ∧ run isDg tp (e - tka e tp p) (tka e tp p) - tka e tp p ≤ 3 ∧ t 41 5 = 2 ∧ t 41 7 = (run isDg tp (e - tka e tp p) (tka e tp p) : Nat)))) ∨ (tka e tp p < e ∧ isLt (tp (tka e tp p)) = false ∧ ¬ tp (tka e tp p) = 59 ∧ (isDg (tp (tka e tp p)) = true → 3 < run isDg tp (e - tka e tp p) (tka e tp p) - tka e tp p) ∧ t 41 1 = 1 ∧ t 41 2 = (tka e tp p : Nat) ∧ t 41 5 = 2 ∧ t 41 7 = (run isDg tp (e - tka e tp p) (tka e tp p) : Nat)))
theorem run_0 {f : Int → Bool} {g : Nat → Int} {d p : Nat} (hd : 0 < d) (h : f (g p) = false) : run f g d p = p := by
  obtain ⟨k, rfl⟩ : ∃ k, d = k + 1 := ⟨d - 1, by omega⟩
  show (if f (g p) then run f g k (p + 1) else p) = p
  rw [if_neg (by rw [h]; exact Bool.false_ne_true)]
theorem run_1 {f : Int → Bool} {g : Nat → Int} {d p : Nat} (hd : 0 < d) (h : f (g p) = true) : p < run f g d p := by
  obtain ⟨k, rfl⟩ : ∃ k, d = k + 1 := ⟨d - 1, by omega⟩
  show p < (if f (g p) then run f g k (p + 1) else p)
  rw [if_pos h]
  have := (run_spec f g k (p + 1)).1
  omega
theorem step_eq {F e : Nat} {tp : Nat → Int} {p : Nat} {s0 : St} (hX : XTP e tp s0) (hp : p ≤ e) (h1 : s0 41 1 = 0) (h7 : s0 41 7 = p) (hF : 310 ≤ F) : T (f_Read_step F s0) (fun t => frs KNX s0 t ∧ TKX e tp p t) := by
  have he := hX.1
  have hr := run_spec isSp tp (e - p) p
  unfold f_Read_step
  obtain ⟨a, had⟩ : ∃ a, a = run isSp tp (e - p) p := ⟨_, rfl⟩
  have hta : tka e tp p = a := had.symm
  unfold TKX
  rw [hta]
  rw [← had] at hr
  refine T_yes (by rw [h1]; decide) ?_
  obtain ⟨POST, hPOST⟩ : ∃ POST : St → Prop, POST = (fun t => frs KNX s0 t ∧ t 41 6 = (a : Nat) ∧ ((t 41 1 = 0 ∧ ((a = e ∧ t 41 5 = 0 ∧ t 41 7 = (e : Nat)) ∨ (a < e ∧ tp a = 59 ∧ t 41 5 = 3 ∧ t 41 7 = ((a + 1 : Nat) : Int)) ∨ (a < e ∧ isLt (tp a) = true ∧ t 41 5 = 1 ∧ t 41 7 = (run isLt tp (e - a) a : Nat)) ∨ (a < e ∧ isDg (tp a) = true ∧ run isDg tp (e - a) a - a ≤ 3 ∧ t 41 5 = 2 ∧ t 41 7 = (run isDg tp (e - a) a : Nat)))) ∨ (a < e ∧ isLt (tp a) = false ∧ ¬ tp a = 59 ∧ (isDg (tp a) = true → 3 < run isDg tp (e - a) a - a) ∧ t 41 1 = 1 ∧ t 41 2 = (a : Nat) ∧ t 41 5 = 2 ∧ t 41 7 = (run isDg tp (e - a) a : Nat)))) := ⟨_, rfl⟩
  rw [← hPOST]
  refine loopG (l := fun n (t : St) x => l_Read_step_16 F (fun s3 => b_Read_step_68 F s3) n t) (N := a) (I := fun x t => frs KNX s0 t ∧ t 41 6 = (x : Nat) ∧ p ≤ x ∧ t 41 1 = 0) (G := fun q => T q POST) ?_ ?_ (a - p) p F (put s0 41 6 (s0 41 7)) (by omega) (by omega) ⟨frs_put (frs_refl _ _) rfl, by rw [put_eq]; exact h7, Nat.le_refl p, h1⟩
  · intro n x t hx hI next
    obtain ⟨i1, i2, i3, i4⟩ := hI
    have hXt := XTP_fr hX i1
    have hl := hr.2.2.1 x i3 hx
    have rg := hX.2.2.2 x
    have hx1 : tp x = 10 ∨ tp x = 32 := by
      unfold isSp at hl
      simpa using hl
    have ix1 : inb (x : Int) 300 := inbN (show x < 300 by omega) (by decide)
    show T (b_Read_step_16 F (l_Read_step_16 F (fun s3 => b_Read_step_68 F s3) n) (fun s3 => b_Read_step_68 F s3) t) POST
    unfold b_Read_step_16
    rw [hXt.2.1, i2]
    have fin : T (b_Read_step_55 F (l_Read_step_16 F (fun s3 => b_Read_step_68 F s3) n) (fun s3 => b_Read_step_68 F s3) t) POST := by
      unfold b_Read_step_55
      refine next (put t 41 6 (t 41 6 + 1)) ⟨frs_put i1 rfl, ?_, by omega, i4⟩
      rw [put_eq, i2]; omega
    refine T_no (by rw [wnat (by omega), wnat (by omega)]; omega) (T_gd ix1 ?_)
    rw [ix_nat (show x < 2147483648 by omega), hXt.2.2.1]
    refine T_if (fun _ => fin) (fun c => T_gd ix1 (T_yes ?_ fin))
    rcases hx1 with q | q
    · exact absurd (by rw [q]) c
    · rw [q]
  · intro n t hI
    obtain ⟨i1, i2, i3, i4⟩ := hI
    have hXt := XTP_fr hX i1
    have rg := hX.2.2.2 a
    have wt : w32 (tp a) = tp a := wid (by omega) (by omega)
    have main : T (b_Read_step_68 F t) POST := by
      unfold b_Read_step_68
      rw [i2, hXt.2.1]
      by_cases c : a < e
      · have ix1 : inb (a : Int) 300 := inbN (show a < 300 by omega) (by decide)
        refine T_yes (by rw [wnat (by omega), wnat (by omega)]; omega) (T_gd ix1 ?_)
        rw [ix_nat (show a < 2147483648 by omega), hXt.2.2.1, wt, show w32 59 = 59 by decide]
        refine T_if (fun c1 => ?_) (fun c1 => ?_)
        · unfold b_Read_step_144
          refine T_no (show ¬ w32 3 = w32 1 by decide) (T_some ?_)
          rw [hPOST]
          refine ⟨frs_put (frs_put i1 rfl) rfl, i2, .inl ⟨i4, .inr (.inl ⟨c, c1, rfl, ?_⟩)⟩⟩
          rw [put_eq]; show t 41 6 + 1 = _; rw [i2]; omega
        · have f8 : frs KNX s0 (put t 41 5 1) := frs_put i1 rfl
          refine T_bind (T_eq (endRun_eq (XTP_fr hX f8) (a := a) (by omega) (show t 41 6 = _ from i2) (lo := 97) (hi := 122) (f := isLt) (by omega) (by omega) (fun x => rfl) hF) ?_)
          show T (b_Read_step_144 F (put (put t 41 5 1) 41 7 (run isLt tp (e - a) a : Nat))) POST
          have hrl := run_spec isLt tp (e - a) a
          unfold b_Read_step_144
          refine T_yes (show w32 1 = w32 1 from rfl) ?_
          show T (if w32 ((run isLt tp (e - a) a : Nat) : Int) = w32 (t 41 6) then _ else _) POST
          rw [i2, wnat (by omega), wnat (by omega)]
          cases el : isLt (tp a) with
          | true =>
            have := run_1 (d := e - a) (by omega) el
            refine T_no (by omega) (T_some ?_)
            rw [hPOST]
            exact ⟨frs_put f8 rfl, i2, .inl ⟨i4, .inr (.inr (.inl ⟨c, el, rfl, put_eq _ _ _ _⟩))⟩⟩
          | false =>
            rw [run_0 (d := e - a) (by omega) el]
            refine T_yes rfl ?_
            have f9 : frs KNX s0 (put (put (put t 41 5 1) 41 7 (a : Nat)) 41 5 2) := frs_put (frs_put f8 rfl) rfl
            have hrd := run_spec isDg tp (e - a) a
            refine T_bind (T_eq (endRun_eq (XTP_fr hX f9) (a := a) (by omega) (show t 41 6 = _ from i2) (lo := 48) (hi := 57) (f := isDg) (by omega) (by omega) (fun x => rfl) hF) ?_)
            show T (if w32 ((run isDg tp (e - a) a : Nat) : Int) = w32 (t 41 6) then b_Read_step_204 F (put (put (put (put t 41 5 1) 41 7 (a : Nat)) 41 5 2) 41 7 (run isDg tp (e - a) a : Nat)) else if w32 (((run isDg tp (e - a) a : Nat) : Int) - t 41 6) ≤ w32 3 then some (put (put (put (put t 41 5 1) 41 7 (a : Nat)) 41 5 2) 41 7 (run isDg tp (e - a) a : Nat)) else b_Read_step_204 F (put (put (put (put t 41 5 1) 41 7 (a : Nat)) 41 5 2) 41 7 (run isDg tp (e - a) a : Nat))) POST
            rw [i2, wnat (by omega), wnat (by omega), show w32 3 = 3 by decide, wid (a := ((run isDg tp (e - a) a : Nat) : Int) - (a : Nat)) (by omega) (by omega)]
            have bad : (isDg (tp a) = true → 3 < run isDg tp (e - a) a - a) → T (b_Read_step_204 F (put (put (put (put t 41 5 1) 41 7 (a : Nat)) 41 5 2) 41 7 (run isDg tp (e - a) a : Nat))) POST := by
              intro hb
              unfold b_Read_step_204 f_Read_blame
              refine T_bind (T_yes (show w32 (t 41 1) = 0 by rw [i4]; decide) (T_some (T_some ?_)))
              rw [hPOST]
              exact ⟨frs_put (frs_put (frs_put f9 rfl) rfl) rfl, i2, .inr ⟨c, el, c1, hb, rfl, by rw [put_eq]; exact i2, rfl, rfl⟩⟩
            cases ed : isDg (tp a) with
            | false =>
              have hz := run_0 (f := isDg) (d := e - a) (by omega) ed
              exact T_yes (by omega) (bad (fun h => by rw [ed] at h; cases h))
            | true =>
              have hz := run_1 (f := isDg) (d := e - a) (by omega) ed
              refine T_no (by omega) (T_if (fun c2 => T_some ?_) (fun c2 => bad (fun _ => by omega)))
              rw [hPOST]
              exact ⟨frs_put f9 rfl, i2, .inl ⟨i4, .inr (.inr (.inr ⟨c, ed, by omega, rfl, put_eq _ _ _ _⟩))⟩⟩
      · refine T_no (by rw [wnat (by omega), wnat (by omega)]; omega) ?_
        unfold b_Read_step_144
        refine T_no (show ¬ w32 0 = w32 1 by decide) (T_some ?_)
        rw [hPOST]
        refine ⟨frs_put (frs_put i1 rfl) rfl, i2, .inl ⟨i4, .inl ⟨by omega, rfl, ?_⟩⟩⟩
        rw [put_eq]
        exact hXt.2.1
    show T (b_Read_step_16 F (l_Read_step_16 F (fun s3 => b_Read_step_68 F s3) n) (fun s3 => b_Read_step_68 F s3) t) POST
    unfold b_Read_step_16
    rw [hXt.2.1, i2]
    by_cases c : a < e
    · have hn := hr.2.2.2 (by omega)
      have hx1 : ¬ tp a = 10 ∧ ¬ tp a = 32 := by
        unfold isSp at hn
        simpa using hn
      have ix1 : inb (a : Int) 300 := inbN (show a < 300 by omega) (by decide)
      refine T_no (by rw [wnat (by omega), wnat (by omega)]; omega) (T_gd ix1 ?_)
      rw [ix_nat (show a < 2147483648 by omega), hXt.2.2.1, wt]
      exact T_no (by rw [show w32 10 = 10 by decide]; exact hx1.1) (T_gd ix1 (T_no (by rw [show w32 32 = 32 by decide]; exact hx1.2) main))
    · exact T_yes (by rw [wnat (by omega), wnat (by omega)]; omega) main
