def HOLDP (nb nj : Nat) (may R : Pl) (L : Nat) (H : Nat → Bool) : Prop := (∀ b, b < nb → rowc nj R b < L → H b = true) ∧ (∀ b c j, b < nb → c < nb → j < nj → H b = true → may b j = true → R b j = false → R c j = true → H c = true) ∧ ∀ X : Nat → Bool, (∀ b, b < nb → rowc nj R b < L → X b = true) → (∀ b c j, b < nb → c < nb → j < nj → X b = true → may b j = true → R b j = false → R c j = true → X c = true) → ∀ b, b < nb → H b = true → X b = true
theorem HOLD_uniq {nb nj L : Nat} {may R : Pl} {H H2 : Nat → Bool} (h1 : HOLDP nb nj may R L H) (h2 : HOLDP nb nj may R L H2) {b : Nat} (hb : b < nb) : H b = H2 b := by
  have a := h1.2.2 H2 h2.1 h2.2.1 b hb
  have c := h2.2.2 H h1.1 h1.2.1 b hb
  cases e1 : H b with
  | true => exact (a e1).symm
  | false =>
    cases e2 : H2 b with
    | false => rfl
    | true => rw [c e2] at e1; cases e1
theorem HOLD_cong {nb nj L : Nat} {may R R2 : Pl} {H : Nat → Bool} (e : ∀ b j, b < nb → j < nj → R2 b j = R b j) (h : HOLDP nb nj may R L H) : HOLDP nb nj may R2 L H := by
  have er : ∀ b, b < nb → rowc nj R2 b = rowc nj R b := fun b hb => fb_ct_cong (fun j hj => e b j hb hj)
  refine ⟨fun b hb hl => h.1 b hb (by rw [← er b hb]; exact hl), fun b c j hb hc hj x1 x2 x3 x4 => h.2.1 b c j hb hc hj x1 x2 (by rw [← e b j hb hj]; exact x3) (by rw [← e c j hc hj]; exact x4), fun X x1 x2 => h.2.2 X (fun b hb hl => x1 b hb (by rw [er b hb]; exact hl)) (fun b c j hb hc hj y1 y2 y3 y4 => x2 b c j hb hc hj y1 y2 (by rw [e b j hb hj]; exact y3) (by rw [e c j hc hj]; exact y4))⟩
def K11 (c j : Nat) : Bool := c == 11
def hS (s : St) (b : Nat) : Bool := !decide (s 11 b = 0)
/-- what stands while the holding boards are found -/
def HI (nb nj L : Nat) (mo : Nat → Nat) (may R : Pl) (s1 t : St) : Prop := frs K11 s1 t ∧ (∀ b, b < nb → t 11 b = 0 ∨ t 11 b = 1) ∧ (∀ b, b < nb → rowc nj R b < L → hS t b = true) ∧ ∀ X : Nat → Bool, (∀ b, b < nb → rowc nj R b < L → X b = true) → (∀ b c j, b < nb → c < nb → j < nj → X b = true → may b j = true → R b j = false → R c j = true → X c = true) → ∀ b, b < nb → hS t b = true → X b = true
def HD (nb nj L : Nat) (mo : Nat → Nat) (may R : Pl) (fx : Nat → Nat → Int) (s : St) : Prop := PD nb nj L mo may fx s ∧ ∀ b j, b < nb → j < nj → s 9 (12 * b + j) = b2i (R b j)
theorem frs_11_KP {nb nj L : Nat} {mo : Nat → Nat} {may : Pl} {fx : Nat → Nat → Int} {s t : St} (h : PD nb nj L mo may fx s) (f : frs K11 s t) : PD nb nj L mo may fx t := by
  obtain ⟨d1, d2, d3, d4, d5, d6, d7, d8, d9, d10, d11⟩ := h
  refine ⟨d1, d2, d3, d4, (f 0 4 rfl).trans d5, (f 0 5 rfl).trans d6, (f 0 6 rfl).trans d7, fun j hj => ?_, fun b hb => ?_, fun b j hb hj => ?_, fun b j hb hj => ?_⟩
  · rw [f 7 j rfl, f 6 j rfl]; exact d8 j hj
  · rw [f 3 b rfl]; exact d9 b hb
  · rw [← d10 b j hb hj]
    unfold mayB
    rw [f 5 j rfl, f 1 b rfl, f 6 j rfl, f 3 b rfl]
  · rw [f 14 _ rfl]; exact d11 b j hb hj
theorem w_b2i (x : Bool) : w32 (b2i x) = 0 ↔ x = false := by
  cases x
  · exact ⟨fun _ => rfl, fun _ => by decide⟩
  · exact ⟨fun h => absurd h (by decide), fun h => by cases h⟩
theorem hS_ct {nb : Nat} {s : St} {c : Nat} (hc : c < nb) (h0 : hS s c = false) : fb_ct (hS (put s 11 c 1)) nb = fb_ct (hS s) nb + 1 := by
  have e := fb_ct_upd (hS s) true hc
  have e2 : fb_ct (hS (put s 11 c 1)) nb = fb_ct (fun k => if k = c then true else hS s k) nb := fb_ct_cong (fun k _ => by
    unfold hS
    rw [put_at]
    by_cases q : k = c
    · rw [if_pos q, if_pos q]; rfl
    · rw [if_neg q, if_neg q])
  rw [e2]
  rw [h0] at e
  simpa using e
theorem plan_314 {F nb nj L : Nat} {mo : Nat → Nat} {may R : Pl} {fx : Nat → Nat → Int} {s1 s0 : St} (hD : HD nb nj L mo may R fx s1) {b j : Nat} (hb : b < nb) (hj : j < nj) (hm : may b j = true) (hR : R b j = false) {x1 x2 : Int} {k367 : St → Int → Int → Int → Int → Option (Int × St)} {P : Int × St → Prop} (hk : ∀ (t : St) (y : Int), HI nb nj L mo may R s1 t → hS t b = true → ((y = 0 ∧ t = s0 ∧ x2 = 0 ∧ ∀ c, c < nb → R c j = true → hS t c = true) ∨ (y = 1 ∧ fb_ct (hS s0) nb < fb_ct (hS t) nb)) → T (k367 t x1 y b j) P) {s : St} (hI : HI nb nj L mo may R s1 s) (hh : hS s b = true) (hx : (x2 = 0 ∧ s = s0) ∨ (x2 = 1 ∧ fb_ct (hS s0) nb < fb_ct (hS s) nb)) (hF : 60 ≤ F) : T (l_M_plan_314 F k367 F s x1 x2 b j 0) P := by
  obtain ⟨hP, h9⟩ := hD
  obtain ⟨d1, d2, d3, d4, d5, d6, d7, d8, d9, d10, d11⟩ := id hP
  refine loopG (l := fun n (a : St × Int) x => l_M_plan_314 F k367 n a.1 x1 a.2 b j (x : Nat)) (N := nb) (I := fun c a => HI nb nj L mo may R s1 a.1 ∧ hS a.1 b = true ∧ ((a.2 = 0 ∧ a.1 = s0 ∧ x2 = 0 ∧ ∀ c2, c2 < c → R c2 j = true → hS a.1 c2 = true) ∨ (a.2 = 1 ∧ fb_ct (hS s0) nb < fb_ct (hS a.1) nb))) (G := fun r => T r P) ?_ ?_ nb 0 F (s, x2) (by omega) (by omega) ⟨hI, hh, ?_⟩
  · intro n c a hc hI next
    obtain ⟨t, y⟩ := a
    obtain ⟨⟨i1, i2, i3, i4⟩, i5, i6⟩ := hI
    have i1 : frs K11 s1 t := i1
    have i5 : hS t b = true := i5
    have i2 : ∀ b, b < nb → t 11 b = 0 ∨ t 11 b = 1 := i2
    have ic : inb (c : Int) 24 := inbN (show c < 24 by omega) (by decide)
    have ixc : ix (c : Int) = c := ix_nat (by omega)
    show T (b_M_plan_314 F (l_M_plan_314 F k367 n) k367 t x1 y b j c) P
    unfold b_M_plan_314
    refine T_no (by rw [(i1 0 4 rfl).trans d5, wnat (by omega), wnat (by omega)]; omega) (T_bind (T_eq at_eq (T_gd (inbN (show 12 * c + j < 288 by omega) (by decide)) ?_)))
    have e9 : t 9 (ix ((12 * c + j : Nat) : Int)) = b2i (R c j) := by rw [ix_nat (by omega), i1 9 _ rfl]; exact h9 c j hc hj
    have w11 : w32 (t 11 c) = t 11 c := by have z := i2 c hc; exact wid (by omega) (by omega)
    refine T_if (fun c1 => ?_) (fun c1 => T_gd ic ?_)
    · have c1 : w32 (t 9 (ix ((12 * c + j : Nat) : Int))) = 0 := c1
      rw [e9, w_b2i] at c1
      refine next (t, y) ⟨⟨i1, i2, i3, i4⟩, i5, ?_⟩
      rcases i6 with ⟨q1, q2, q0, q3⟩ | q
      · refine .inl ⟨q1, q2, q0, fun c2 h2 h3 => ?_⟩
        by_cases e : c2 = c
        · rw [e, c1] at h3; cases h3
        · exact q3 c2 (by omega) h3
      · exact .inr q
    · have c1 : ¬ w32 (t 9 (ix ((12 * c + j : Nat) : Int))) = 0 := c1
      rw [e9, w_b2i] at c1
      have rc : R c j = true := by simpa using c1
      refine T_if (fun c2 => T_gd ic ?_) (fun c2 => ?_)
      · have c2 : w32 (t 11 (ix (c : Int))) = 0 := c2
        rw [ixc, w11] at c2
        show T (l_M_plan_314 F k367 n (put t 11 (ix (c : Int)) (nz 1)) x1 1 b j ((c : Int) + 1)) P
        rw [ixc, nz_1]
        have h0 : hS t c = false := by unfold hS; simp [c2]
        have hput : ∀ b2, hS (put t 11 c 1) b2 = (decide (b2 = c) || hS t b2) := by
          intro b2
          unfold hS
          rw [put_at]
          by_cases e : b2 = c
          · rw [if_pos e]; simp [e]
          · rw [if_neg e]; simp [e]
        refine next (put t 11 c 1, 1) ⟨⟨frs_put i1 rfl, fun b2 hb2 => ?_, fun b2 hb2 hl => ?_, fun X x1 x2 b2 hb2 hh2 => ?_⟩, ?_, .inr ⟨rfl, ?_⟩⟩
        · show (put t 11 c 1) 11 b2 = 0 ∨ (put t 11 c 1) 11 b2 = 1
          rw [put_at]
          by_cases e : b2 = c
          · rw [if_pos e]; exact .inr rfl
          · rw [if_neg e]; exact i2 b2 hb2
        · show hS (put t 11 c 1) b2 = true
          rw [hput, show hS t b2 = true from i3 b2 hb2 hl]; simp
        · have hh2 : hS (put t 11 c 1) b2 = true := hh2
          rw [hput] at hh2
          by_cases e : b2 = c
          · rw [e]
            exact x2 b c j hb hc hj (i4 X x1 x2 b hb i5) hm hR rc
          · simp only [e, decide_false, Bool.false_or] at hh2
            exact i4 X x1 x2 b2 hb2 hh2
        · show hS (put t 11 c 1) b = true
          rw [hput, i5]; simp
        · show fb_ct (hS s0) nb < fb_ct (hS (put t 11 c 1)) nb
          rw [hS_ct hc h0]
          rcases i6 with ⟨q1, q2, q0, q3⟩ | ⟨q1, q2⟩
          · have q2 : t = s0 := q2
            rw [q2]; omega
          · have q2 : fb_ct (hS s0) nb < fb_ct (hS t) nb := q2
            omega
      · have c2 : ¬ w32 (t 11 (ix (c : Int))) = 0 := c2
        rw [ixc, w11] at c2
        have h1 : hS t c = true := by unfold hS; simp [c2]
        refine next (t, y) ⟨⟨i1, i2, i3, i4⟩, i5, ?_⟩
        rcases i6 with ⟨q1, q2, q0, q3⟩ | q
        · refine .inl ⟨q1, q2, q0, fun c3 h2 h3 => ?_⟩
          by_cases e : c3 = c
          · rw [e]; exact h1
          · exact q3 c3 (by omega) h3
        · exact .inr q
  · intro n a hI
    obtain ⟨t, y⟩ := a
    obtain ⟨i0, i5, i6⟩ := hI
    have i1 : frs K11 s1 t := i0.1
    show T (b_M_plan_314 F (l_M_plan_314 F k367 n) k367 t x1 y b j nb) P
    unfold b_M_plan_314
    exact T_yes (by rw [(i1 0 4 rfl).trans d5, wnat (by omega)]; omega) (hk t y i0 i5 i6)
  · rcases hx with ⟨q1, q2⟩ | q
    · exact .inl ⟨q1, q2, q1, fun c2 h => absurd h (Nat.not_lt_zero c2)⟩
    · exact .inr q
theorem plan_266 {F nb nj L : Nat} {mo : Nat → Nat} {may R : Pl} {fx : Nat → Nat → Int} {s1 s0 : St} (hD : HD nb nj L mo may R fx s1) {b : Nat} (hb : b < nb) {x1 x2 : Int} {k1 k373 : St → Int → Int → Int → Option (Int × St)} {P : Int × St → Prop} (hk : ∀ (t : St) (y : Int), HI nb nj L mo may R s1 t → ((y = 0 ∧ t = s0 ∧ x2 = 0 ∧ ∀ j c, j < nj → c < nb → hS t b = true → may b j = true → R b j = false → R c j = true → hS t c = true) ∨ (y = 1 ∧ fb_ct (hS s0) nb < fb_ct (hS t) nb)) → T (k373 t x1 y b) P) {s : St} (hI : HI nb nj L mo may R s1 s) (hx : (x2 = 0 ∧ s = s0) ∨ (x2 = 1 ∧ fb_ct (hS s0) nb < fb_ct (hS s) nb)) (hF : 60 ≤ F) : T (l_M_plan_266 F k1 k373 F s x1 x2 b 0) P := by
  have hD0 := hD
  obtain ⟨hP, h9⟩ := hD
  obtain ⟨d1, d2, d3, d4, d5, d6, d7, d8, d9, d10, d11⟩ := id hP
  refine loopG (l := fun n (a : St × Int) x => l_M_plan_266 F k1 k373 n a.1 x1 a.2 b (x : Nat)) (N := nj) (I := fun j a => HI nb nj L mo may R s1 a.1 ∧ ((a.2 = 0 ∧ a.1 = s0 ∧ x2 = 0 ∧ ∀ j2 c, j2 < j → c < nb → hS a.1 b = true → may b j2 = true → R b j2 = false → R c j2 = true → hS a.1 c = true) ∨ (a.2 = 1 ∧ fb_ct (hS s0) nb < fb_ct (hS a.1) nb))) (G := fun r => T r P) ?_ ?_ nj 0 F (s, x2) (by omega) (by omega) ⟨hI, ?_⟩
  · intro n j a hj hI next
    obtain ⟨t, y⟩ := a
    obtain ⟨i0, i6⟩ := hI
    have i0 : HI nb nj L mo may R s1 t := i0
    have i1 := i0.1
    have w11 : w32 (t 11 b) = t 11 b := by have z := i0.2.1 b hb; exact wid (by omega) (by omega)
    show T (b_M_plan_266 F (l_M_plan_266 F k1 k373 n) k1 k373 t x1 y b j) P
    unfold b_M_plan_266
    refine T_no (by rw [(i1 0 5 rfl).trans d6, wnat (by omega), wnat (by omega)]; omega) (T_gd (inbN (show b < 24 by omega) (by decide)) ?_)
    rw [ix_nat (by omega), w11]
    refine T_if (fun c1 => ?_) (fun c1 => ?_)
    · refine hk t y i0 ?_
      have h0 : hS t b = false := by unfold hS; simp [c1]
      rcases i6 with ⟨q1, q2, q0, q3⟩ | q
      · exact .inl ⟨q1, q2, q0, fun j2 c _ _ h => by rw [h0] at h; cases h⟩
      · exact .inr q
    · have h1 : hS t b = true := by unfold hS; simp [c1]
      refine T_bind (T_eq (mayP_eq (frs_11_KP hP i1) hb hj) ?_)
      have cont : ∀ (t2 : St) (y2 : Int), HI nb nj L mo may R s1 t2 → ((y2 = 0 ∧ t2 = s0 ∧ x2 = 0 ∧ ∀ j2 c, j2 < j + 1 → c < nb → hS t2 b = true → may b j2 = true → R b j2 = false → R c j2 = true → hS t2 c = true) ∨ (y2 = 1 ∧ fb_ct (hS s0) nb < fb_ct (hS t2) nb)) → T (l_M_plan_266 F k1 k373 n t2 x1 y2 b ((j : Int) + 1)) P := fun t2 y2 g1 g2 => next (t2, y2) ⟨g1, g2⟩
      have same : (may b j = false ∨ R b j = true) → T (l_M_plan_266 F k1 k373 n t x1 y b ((j : Int) + 1)) P := by
        intro hn
        refine cont t y i0 ?_
        rcases i6 with ⟨q1, q2, q0, q3⟩ | q
        · refine .inl ⟨q1, q2, q0, fun j2 c z1 z2 z3 z4 z5 z6 => ?_⟩
          by_cases e : j2 = j
          · rw [e] at z4 z5
            rcases hn with hn | hn
            · rw [hn] at z4; cases z4
            · rw [hn] at z5; cases z5
          · exact q3 j2 c (by omega) z2 z3 z4 z5 z6
        · exact .inr q
      refine T_if (fun c2 => same (.inl ?_)) (fun c2 => T_bind (T_eq at_eq (T_gd (inbN (show 12 * b + j < 288 by omega) (by decide)) ?_)))
      · have := b01_0.mp c2
        simpa using this
      · have hm : may b j = true := Decidable.not_not.mp (fun q => c2 (b01_0.mpr q))
        have e9 : t 9 (ix ((12 * b + j : Nat) : Int)) = b2i (R b j) := by rw [ix_nat (by omega), i1 9 _ rfl]; exact h9 b j hb hj
        refine T_if (fun c3 => ?_) (fun c3 => same (.inr ?_))
        · have c3 : w32 (t 9 (ix ((12 * b + j : Nat) : Int))) = 0 := c3
          rw [e9, w_b2i] at c3
          refine plan_314 (s0 := s0) hD0 hb hj hm c3 (fun t2 y2 g1 g2 g3 => cont t2 y2 g1 ?_) i0 h1 ?_ hF
          · rcases g3 with ⟨q1, q2, q0, q3⟩ | q
            · rcases i6 with ⟨p1, p2, p0, p3⟩ | ⟨p1, p2⟩
              · refine .inl ⟨q1, q2, p0, fun j2 c z1 z2 z3 z4 z5 z6 => ?_⟩
                by_cases e : j2 = j
                · rw [e] at z6; exact q3 c z2 z6
                · have p2 : t = s0 := p2
                  have p3 : ∀ j2 c, j2 < j → c < nb → hS t b = true → may b j2 = true → R b j2 = false → R c j2 = true → hS t c = true := p3
                  rw [q2, ← p2] at z3 ⊢
                  exact p3 j2 c (by omega) z2 z3 z4 z5 z6
              · have p1 : y = 1 := p1
                omega
            · exact .inr q
          · rcases i6 with ⟨p1, p2, p0, p3⟩ | p
            · exact .inl ⟨p1, p2⟩
            · exact .inr p
        · have c3 : ¬ w32 (t 9 (ix ((12 * b + j : Nat) : Int))) = 0 := c3
          rw [e9, w_b2i] at c3
          simpa using c3
  · intro n a hI
    obtain ⟨t, y⟩ := a
    obtain ⟨i0, i6⟩ := hI
    have i0 : HI nb nj L mo may R s1 t := i0
    have i1 := i0.1
    show T (b_M_plan_266 F (l_M_plan_266 F k1 k373 n) k1 k373 t x1 y b nj) P
    unfold b_M_plan_266
    exact T_yes (by rw [(i1 0 5 rfl).trans d6, wnat (by omega)]; omega) (hk t y i0 i6)
  · rcases hx with ⟨q1, q2⟩ | q
    · exact .inl ⟨q1, q2, q1, fun j2 c h => absurd h (Nat.not_lt_zero j2)⟩
    · exact .inr q
