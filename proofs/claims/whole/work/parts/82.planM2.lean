theorem plan_255 {F nb nj L : Nat} {mo : Nat → Nat} {may R : Pl} {fx : Nat → Nat → Int} {s1 s0 : St} (hD : HD nb nj L mo may R fx s1) {x1 : Int} {k379 : St → Int → Int → Option (Int × St)} {P : Int × St → Prop} (hk : ∀ (t : St) (y : Int), HI nb nj L mo may R s1 t → ((y = 0 ∧ t = s0 ∧ ∀ b j c, b < nb → j < nj → c < nb → hS t b = true → may b j = true → R b j = false → R c j = true → hS t c = true) ∨ (y = 1 ∧ fb_ct (hS s0) nb < fb_ct (hS t) nb)) → T (k379 t x1 y) P) (hI : HI nb nj L mo may R s1 s0) (hF : 60 ≤ F) : T (l_M_plan_255 F k379 F s0 x1 0 0) P := by
  have hD0 := hD
  obtain ⟨hP, h9⟩ := hD
  obtain ⟨d1, d2, d3, d4, d5, d6, d7, d8, d9, d10, d11⟩ := id hP
  refine loopG (l := fun n (a : St × Int) x => l_M_plan_255 F k379 n a.1 x1 a.2 (x : Nat)) (N := nb) (I := fun b a => HI nb nj L mo may R s1 a.1 ∧ ((a.2 = 0 ∧ a.1 = s0 ∧ ∀ b2 j c, b2 < b → j < nj → c < nb → hS a.1 b2 = true → may b2 j = true → R b2 j = false → R c j = true → hS a.1 c = true) ∨ (a.2 = 1 ∧ fb_ct (hS s0) nb < fb_ct (hS a.1) nb))) (G := fun r => T r P) ?_ ?_ nb 0 F (s0, 0) (by omega) (by omega) ⟨hI, .inl ⟨rfl, rfl, fun b2 j c h => absurd h (Nat.not_lt_zero b2)⟩⟩
  · intro n b a hb hI next
    obtain ⟨t, y⟩ := a
    obtain ⟨i0, i6⟩ := hI
    have i0 : HI nb nj L mo may R s1 t := i0
    have i1 := i0.1
    show T (b_M_plan_255 F (l_M_plan_255 F k379 n) k379 t x1 y b) P
    unfold b_M_plan_255
    refine T_no (by rw [(i1 0 4 rfl).trans d5, wnat (by omega), wnat (by omega)]; omega) ?_
    refine plan_266 (s0 := s0) hD0 hb (fun t2 y2 g1 g2 => ?_) i0 (x2 := y) ?_ hF
    · refine next (t2, y2) ⟨g1, ?_⟩
      rcases g2 with ⟨q1, q2, q0, q3⟩ | q
      · rcases i6 with ⟨p1, p2, p3⟩ | ⟨p1, p2⟩
        · refine .inl ⟨q1, q2, fun b2 j c z1 z2 z3 z4 z5 z6 z7 => ?_⟩
          by_cases e : b2 = b
          · rw [e] at z4 z5 z6; exact q3 j c z2 z3 z4 z5 z6 z7
          · have p2 : t = s0 := p2
            have p3 : ∀ b2 j c, b2 < b → j < nj → c < nb → hS t b2 = true → may b2 j = true → R b2 j = false → R c j = true → hS t c = true := p3
            have z4 : hS t2 b2 = true := z4
            show hS t2 c = true
            rw [q2, ← p2] at z4 ⊢
            exact p3 b2 j c (by omega) z2 z3 z4 z5 z6 z7
        · have p1 : y = 1 := p1
          omega
      · exact .inr q
    · rcases i6 with ⟨p1, p2, p3⟩ | p
      · exact .inl ⟨p1, p2⟩
      · exact .inr p
  · intro n a hI
    obtain ⟨t, y⟩ := a
    obtain ⟨i0, i6⟩ := hI
    have i0 : HI nb nj L mo may R s1 t := i0
    have i1 := i0.1
    show T (b_M_plan_255 F (l_M_plan_255 F k379 n) k379 t x1 y nb) P
    unfold b_M_plan_255
    exact T_yes (by rw [(i1 0 4 rfl).trans d5, wnat (by omega)]; omega) (hk t y i0 i6)
theorem plan_247 {F nb nj L : Nat} {mo : Nat → Nat} {may R : Pl} {fx : Nat → Nat → Int} {s1 s0 : St} (hD : HD nb nj L mo may R fx s1) {x1 : Int} {k382 : St → Int → Option (Int × St)} {P : Int × St → Prop} (hk : ∀ t : St, frs K11 s1 t → (∀ b, b < nb → t 11 b = 0 ∨ t 11 b = 1) → HOLDP nb nj may R L (hS t) → T (k382 t x1) P) (hI : HI nb nj L mo may R s1 s0) (hF : 60 ≤ F) : T (l_M_plan_247 F k382 F s0 x1 1) P := by
  have hnb := hD.1.1
  refine loopW (l := fun n (a : St × Int) => l_M_plan_247 F k382 n a.1 x1 a.2) (I := fun a => HI nb nj L mo may R s1 a.1 ∧ ((a.2 = 0 ∧ ∀ b j c, b < nb → j < nj → c < nb → hS a.1 b = true → may b j = true → R b j = false → R c j = true → hS a.1 c = true) ∨ a.2 = 1)) (mu := fun a => nb - fb_ct (hS a.1) nb + a.2.toNat) (G := fun r => T r P) ?_ 25 F (s0, 1) (by show nb - fb_ct (hS s0) nb + 1 ≤ 25; omega) (by omega) ⟨hI, .inr rfl⟩
  intro n a hI next
  obtain ⟨t, y⟩ := a
  obtain ⟨i0, i6⟩ := hI
  have i0 : HI nb nj L mo may R s1 t := i0
  show T (b_M_plan_247 F (l_M_plan_247 F k382 n) k382 t x1 y) P
  unfold b_M_plan_247
  rcases i6 with ⟨q1, q2⟩ | q
  · have q1 : y = 0 := q1
    exact T_yes (by rw [q1]; decide) (hk t i0.1 i0.2.1 ⟨i0.2.2.1, fun b c j hb hc hj => q2 b j c hb hj hc, i0.2.2.2⟩)
  · have q : y = 1 := q
    refine T_no (by rw [q]; decide) ?_
    refine plan_255 hD (fun t2 y2 g1 g2 => ?_) i0 hF
    rcases g2 with ⟨r1, r2, r3⟩ | ⟨r1, r2⟩
    · refine next (t2, y2) ⟨g1, .inl ⟨r1, r3⟩⟩ ?_
      show nb - fb_ct (hS t2) nb + y2.toNat < nb - fb_ct (hS t) nb + y.toNat
      rw [r2, r1, q]
      show nb - fb_ct (hS t) nb + 0 < nb - fb_ct (hS t) nb + 1
      omega
    · refine next (t2, y2) ⟨g1, .inr r1⟩ ?_
      show nb - fb_ct (hS t2) nb + y2.toNat < nb - fb_ct (hS t) nb + y.toNat
      have : fb_ct (hS t2) nb ≤ nb := fb_ct_le _ nb
      rw [r1, q]
      omega
theorem plan_170 {F nb nj L : Nat} {mo : Nat → Nat} {may R : Pl} {fx : Nat → Nat → Int} {s1 : St} (hD : HD nb nj L mo may R fx s1) {x1 : Int} {k245 : St → Int → Option (Int × St)} {P : Int × St → Prop} (hk : ∀ t : St, HI nb nj L mo may R s1 t → T (k245 t x1) P) (hF : 60 ≤ F) : T (l_M_plan_170 F k245 F s1 x1 0) P := by
  obtain ⟨hP, h9⟩ := hD
  obtain ⟨d1, d2, d3, d4, d5, d6, d7, d8, d9, d10, d11⟩ := id hP
  refine loopG (l := fun n (t : St) x => l_M_plan_170 F k245 n t x1 (x : Nat)) (N := nb) (I := fun b t => frs K11 s1 t ∧ ∀ b2, b2 < b → t 11 b2 = b2i (decide (rowc nj R b2 < L))) (G := fun r => T r P) ?_ ?_ nb 0 F s1 (by omega) (by omega) ⟨frs_refl _ _, fun b2 h => absurd h (Nat.not_lt_zero b2)⟩
  · intro n b t hb hI next
    obtain ⟨i1, i2⟩ := hI
    show T (b_M_plan_170 F (l_M_plan_170 F k245 n) k245 t x1 b) P
    unfold b_M_plan_170
    refine T_no (by rw [(i1 0 4 rfl).trans d5, wnat (by omega), wnat (by omega)]; omega) ?_
    have fin : ∀ v : Bool, v = decide (rowc nj R b < L) → T (b_M_plan_238 F (l_M_plan_170 F k245 n) k245 t x1 b (b2i v) b) P := by
      intro v hv
      unfold b_M_plan_238
      refine T_gd (inbN (show b < 24 by omega) (by decide)) ?_
      show T (l_M_plan_170 F k245 n (put t 11 (ix (b : Int)) (nz (b2i v))) x1 ((b : Int) + 1)) P
      rw [ix_nat (by omega)]
      refine next _ ⟨frs_put i1 rfl, fun b2 h2 => ?_⟩
      rw [put_at]
      by_cases e : b2 = b
      · rw [if_pos e, e, ← hv]
        cases v <;> decide
      · rw [if_neg e]; exact i2 b2 (by omega)
    refine loopG (l := fun n (v : Int) x => l_M_plan_183 F _ n t x1 b v (x : Nat)) (N := nj) (I := fun j v => v = ((fb_ct (R b) j : Nat) : Int)) (G := fun r => T r P) ?_ ?_ nj 0 F 0 (by omega) (by omega) rfl
    · intro n2 j v hj hv next2
      show T (b_M_plan_183 F (l_M_plan_183 F _ n2) _ t x1 b v j) P
      unfold b_M_plan_183
      refine T_no (by rw [(i1 0 5 rfl).trans d6, wnat (by omega), wnat (by omega)]; omega) (T_bind (T_eq at_eq (T_gd (inbN (show 12 * b + j < 288 by omega) (by decide)) ?_)))
      have e9 : t 9 (ix ((12 * b + j : Nat) : Int)) = b2i (R b j) := by rw [ix_nat (by omega), i1 9 _ rfl]; exact h9 b j hb hj
      refine T_if (fun c => ?_) (fun c => ?_)
      · have c : w32 (t 9 (ix ((12 * b + j : Nat) : Int))) = 0 := c
        rw [e9, w_b2i] at c
        refine next2 (v + 0) ?_
        rw [fb_ct_succ, c, hv]
        simp
      · have c : ¬ w32 (t 9 (ix ((12 * b + j : Nat) : Int))) = 0 := c
        rw [e9, w_b2i] at c
        refine next2 (v + 1) ?_
        rw [fb_ct_succ, show R b j = true by simpa using c, hv]
        simp
    · intro n2 v hv
      have hct : fb_ct (R b) nj ≤ nj := fb_ct_le _ nj
      show T (b_M_plan_183 F (l_M_plan_183 F _ n2) _ t x1 b v nj) P
      unfold b_M_plan_183
      refine T_yes (by rw [(i1 0 5 rfl).trans d6, wnat (by omega)]; omega) ?_
      show T (if w32 (t 0 6) ≤ w32 v then b_M_plan_238 F (l_M_plan_170 F k245 n) k245 t x1 b 0 b else b_M_plan_238 F (l_M_plan_170 F k245 n) k245 t x1 b 1 b) P
      rw [hv, (i1 0 6 rfl).trans d7, wnat (by omega), wnat (by omega)]
      refine T_if (fun c => fin false ?_) (fun c => fin true ?_)
      · symm; apply decide_eq_false; show ¬ fb_ct (R b) nj < L; omega
      · symm; apply decide_eq_true; show fb_ct (R b) nj < L; omega
  · intro n t hI
    obtain ⟨i1, i2⟩ := hI
    show T (b_M_plan_170 F (l_M_plan_170 F k245 n) k245 t x1 nb) P
    unfold b_M_plan_170
    have hh : ∀ b, b < nb → hS t b = decide (rowc nj R b < L) := by
      intro b hb
      unfold hS
      rw [i2 b hb]
      cases decide (rowc nj R b < L) <;> rfl
    refine T_yes (by rw [(i1 0 4 rfl).trans d5, wnat (by omega)]; omega) (hk t ⟨i1, fun b hb => ?_, fun b hb hl => ?_, fun X x1 x2 b hb h => x1 b hb ?_⟩)
    · rw [i2 b hb]
      cases decide (rowc nj R b < L)
      · exact .inl rfl
      · exact .inr rfl
    · rw [hh b hb]; exact decide_eq_true hl
    · rw [hh b hb] at h; exact of_decide_eq_true h
def KPM (c j : Nat) : Bool := KP c j || c == 9 || c == 11 || (c == 0 && (j == 15 || j == 16 || j == 17))
/-- the plan that the reference keeps -/
def PLM (nb nj L : Nat) (mo : Nat → Nat) (may : Pl) (m0 : St) (q : Int × St) : Prop := ∃ (A : Nat) (R : Pl) (H : Nat → Bool), MAXP nb nj may L mo A ∧ LEX nb nj may L mo A R ∧ HOLDP nb nj may R L H ∧ A ≤ 288 ∧ q.1 = (L : Int) * nb - A ∧ frs KPM m0 q.2 ∧ q.2 0 15 = 1 ∧ q.2 0 16 = nb ∧ q.2 0 17 = nj ∧ (∀ b j, b < nb → j < nj → q.2 9 (12 * b + j) = b2i (R b j)) ∧ ∀ b, b < nb → q.2 11 b = b2i (H b)
