theorem find_44 {F nb nj L : Nat} {mo : Nat → Nat} {may : Pl} {fx : Nat → Nat → Int} {s0 : St} (hD : PD nb nj L mo may fx s0) {B : Nat} (hB : B < nb) {k126 : St → Int → Int → Option (Int × St)} {P : Int × St → Prop} {s : St} (f1 : frs KF s0 s) {v : Nat} (h15 : s 15 B = 0) (hk : ∀ t, frs KF s0 t → (∀ b, b ≠ B → t 15 b = s 15 b) → t 15 B = (fb_ct (baF fx B) nj : Nat) → (∀ j, j < nj → t 16 j = s 16 j + b2i (baF fx B j)) → (∀ j, j < nj → t 10 (12 * B + j) = b2i (baF fx B j)) → (∀ b j, b ≠ B → j < 12 → t 10 (12 * b + j) = s 10 (12 * b + j)) → T (k126 t (v + fb_ct (baF fx B) nj : Nat) B) P) (hF : 100 ≤ F) : T (l_M_find_44 F k126 F s (v : Nat) B 0) P := by
  obtain ⟨d1, d2, d3, d4, d5, d6, d7, d8, d9, d10, d11⟩ := id hD
  refine loopG (l := fun n (t : St × Nat) x => l_M_find_44 F k126 n t.1 (t.2 : Nat) B (x : Nat)) (N := nj) (I := fun j a => frs KF s0 a.1 ∧ a.2 = v + fb_ct (baF fx B) j ∧ (∀ b, b ≠ B → a.1 15 b = s 15 b) ∧ a.1 15 B = (fb_ct (baF fx B) j : Nat) ∧ (∀ j2, j2 < j → a.1 16 j2 = s 16 j2 + b2i (baF fx B j2)) ∧ (∀ j2, j ≤ j2 → a.1 16 j2 = s 16 j2) ∧ (∀ j2, j2 < j → a.1 10 (12 * B + j2) = b2i (baF fx B j2)) ∧ ∀ b j2, b ≠ B → j2 < 12 → a.1 10 (12 * b + j2) = s 10 (12 * b + j2)) (G := fun r => T r P) ?_ ?_ nj 0 F (s, v) (by omega) (by omega) ⟨f1, rfl, fun _ _ => rfl, h15, fun j2 h => absurd h (Nat.not_lt_zero j2), fun _ _ => rfl, fun j2 h => absurd h (Nat.not_lt_zero j2), fun _ _ _ _ => rfl⟩
  · intro n j a hj hI next
    obtain ⟨t, u⟩ := a
    obtain ⟨i1, i2, i3, i4, i5, i6, i7, i8⟩ := hI
    have i1 : frs KF s0 t := i1
    have i2 : u = v + fb_ct (baF fx B) j := i2
    have i3 : ∀ b, b ≠ B → t 15 b = s 15 b := i3
    have i4 : t 15 B = (fb_ct (baF fx B) j : Nat) := i4
    have i5 : ∀ j2, j2 < j → t 16 j2 = s 16 j2 + b2i (baF fx B j2) := i5
    have i6 : ∀ j2, j ≤ j2 → t 16 j2 = s 16 j2 := i6
    have i7 : ∀ j2, j2 < j → t 10 (12 * B + j2) = b2i (baF fx B j2) := i7
    have i8 : ∀ b j2, b ≠ B → j2 < 12 → t 10 (12 * b + j2) = s 10 (12 * b + j2) := i8
    have hx := d11 B j hB hj
    have e14 : t 14 (12 * B + j) = fx B j := (i1 14 _ rfl).trans hx.1
    have ii : inb ((12 * B + j : Nat) : Int) 288 := inbN (by omega) (by decide)
    have ixi : ix ((12 * B + j : Nat) : Int) = 12 * B + j := ix_nat (by omega)
    have ixB : ix (B : Int) = B := ix_nat (by omega)
    have ixj : ix (j : Int) = j := ix_nat (by omega)
    show T (b_M_find_44 F (l_M_find_44 F k126 n) k126 t (u : Nat) B j) P
    unfold b_M_find_44
    refine T_no (by rw [(i1 0 5 rfl).trans d6, wnat (by omega), wnat (by omega)]; omega) (T_bind (T_eq at_eq (T_bind (T_eq at_eq (T_gd ii ?_)))))
    show T (if w32 (t 14 (ix ((12 * B + j : Nat) : Int))) = w32 1 then b_M_find_80 F (l_M_find_44 F k126 n) k126 t (u : Nat) B j 1 ((12 * B + j : Nat) : Int) else b_M_find_80 F (l_M_find_44 F k126 n) k126 t (u : Nat) B j 0 ((12 * B + j : Nat) : Int)) P
    rw [ixi, e14, wid (a := fx B j) (by omega) (by omega), show w32 1 = 1 by decide]
    have n10 : ∀ (x : Int) (c2 j2 : Nat), c2 ≠ B ∧ j2 < 12 → (put t 10 (12 * B + j) x) 10 (12 * c2 + j2) = t 10 (12 * c2 + j2) := fun x c2 j2 h => by rw [put_at, if_neg (by omega)]
    by_cases c : fx B j = 1
    · have hb : baF fx B j = true := by unfold baF; simp [c]
      rw [if_pos c]
      unfold b_M_find_80
      refine T_gd ii (T_bind (T_eq at_eq (T_gd ii ?_)))
      show T (if w32 ((put t 10 (ix ((12 * B + j : Nat) : Int)) (nz 1)) 10 (ix ((12 * B + j : Nat) : Int))) = 0 then l_M_find_44 F k126 n (put t 10 (ix ((12 * B + j : Nat) : Int)) (nz 1)) (u : Nat) B ((j : Int) + 1) else gd (inb (B : Int) 24) (gd (inb (B : Int) 24) (gd (inb (j : Int) 12) (gd (inb (j : Int) 12) (l_M_find_44 F k126 n (put (put (put t 10 (ix ((12 * B + j : Nat) : Int)) (nz 1)) 15 (ix (B : Int)) (t 15 (ix (B : Int)) + 1)) 16 (ix (j : Int)) (t 16 (ix (j : Int)) + 1)) (((u : Nat) : Int) + 1) B ((j : Int) + 1)))))) P
      rw [ixi, ixB, ixj, nz_1, put_eq]
      refine T_no (by decide) (T_gd (inbN (show B < 24 by omega) (by decide)) (T_gd (inbN (show B < 24 by omega) (by decide)) (T_gd (inbN (show j < 12 by omega) (by decide)) (T_gd (inbN (show j < 12 by omega) (by decide)) ?_))))
      rw [show ((u : Nat) : Int) + 1 = ((u + 1 : Nat) : Int) by omega]
      refine next (put (put (put t 10 (12 * B + j) 1) 15 B (t 15 B + 1)) 16 j (t 16 j + 1), u + 1) ⟨frs_put (frs_put (frs_put i1 rfl) rfl) rfl, ?_, fun b hne => ?_, ?_, fun j2 h2 => ?_, fun j2 h2 => ?_, fun j2 h2 => ?_, fun b j2 h1 h2 => ?_⟩
      · show u + 1 = v + fb_ct (baF fx B) (j + 1)
        rw [fb_ct_succ, hb, i2]; simp; omega
      · show (put (put t 10 (12 * B + j) 1) 15 B (t 15 B + 1)) 15 b = s 15 b
        rw [put_at, if_neg hne]; exact i3 b hne
      · show (put (put t 10 (12 * B + j) 1) 15 B (t 15 B + 1)) 15 B = _
        rw [put_eq, i4, fb_ct_succ, hb]; simp
      · show (put (put (put t 10 (12 * B + j) 1) 15 B (t 15 B + 1)) 16 j (t 16 j + 1)) 16 j2 = _
        rw [put_at]
        by_cases e : j2 = j
        · rw [if_pos e, e, i6 j (Nat.le_refl j), hb]; rfl
        · rw [if_neg e]; exact i5 j2 (by omega)
      · show (put (put (put t 10 (12 * B + j) 1) 15 B (t 15 B + 1)) 16 j (t 16 j + 1)) 16 j2 = _
        rw [put_at, if_neg (by omega)]; exact i6 j2 (by omega)
      · show (put t 10 (12 * B + j) 1) 10 (12 * B + j2) = _
        rw [put_at]
        by_cases e : j2 = j
        · rw [if_pos (by omega), e, hb]; rfl
        · rw [if_neg (by omega)]; exact i7 j2 (by omega)
      · show (put t 10 (12 * B + j) 1) 10 (12 * b + j2) = _
        rw [n10 _ _ _ ⟨h1, h2⟩]; exact i8 b j2 h1 h2
    · have hb : baF fx B j = false := by unfold baF; simp [c]
      rw [if_neg c]
      unfold b_M_find_80
      refine T_gd ii (T_bind (T_eq at_eq (T_gd ii ?_)))
      show T (if w32 ((put t 10 (ix ((12 * B + j : Nat) : Int)) (nz 0)) 10 (ix ((12 * B + j : Nat) : Int))) = 0 then l_M_find_44 F k126 n (put t 10 (ix ((12 * B + j : Nat) : Int)) (nz 0)) (u : Nat) B ((j : Int) + 1) else gd (inb (B : Int) 24) (gd (inb (B : Int) 24) (gd (inb (j : Int) 12) (gd (inb (j : Int) 12) (l_M_find_44 F k126 n (put (put (put t 10 (ix ((12 * B + j : Nat) : Int)) (nz 0)) 15 (ix (B : Int)) (t 15 (ix (B : Int)) + 1)) 16 (ix (j : Int)) (t 16 (ix (j : Int)) + 1)) (((u : Nat) : Int) + 1) B ((j : Int) + 1)))))) P
      rw [ixi, ixB, ixj, nz_0, put_eq]
      refine T_yes (by decide) ?_
      refine next (put t 10 (12 * B + j) 0, u) ⟨frs_put i1 rfl, ?_, i3, ?_, fun j2 h2 => ?_, fun j2 h2 => i6 j2 (by omega), fun j2 h2 => ?_, fun b j2 h1 h2 => ?_⟩
      · show u = v + fb_ct (baF fx B) (j + 1)
        rw [fb_ct_succ, hb, i2]; simp
      · show t 15 B = _
        rw [i4, fb_ct_succ, hb]; simp
      · show t 16 j2 = _
        by_cases e : j2 = j
        · rw [e, i6 j (Nat.le_refl j), hb]; show _ = s 16 j + 0; omega
        · exact i5 j2 (by omega)
      · show (put t 10 (12 * B + j) 0) 10 (12 * B + j2) = _
        rw [put_at]
        by_cases e : j2 = j
        · rw [if_pos (by omega), e, hb]; rfl
        · rw [if_neg (by omega)]; exact i7 j2 (by omega)
      · show (put t 10 (12 * B + j) 0) 10 (12 * b + j2) = _
        rw [n10 _ _ _ ⟨h1, h2⟩]; exact i8 b j2 h1 h2
  · intro n a hI
    obtain ⟨t, u⟩ := a
    obtain ⟨i1, i2, i3, i4, i5, i6, i7, i8⟩ := hI
    have i1 : frs KF s0 t := i1
    have i2 : u = v + fb_ct (baF fx B) nj := i2
    show T (b_M_find_44 F (l_M_find_44 F k126 n) k126 t (u : Nat) B nj) P
    unfold b_M_find_44
    refine T_yes (by rw [(i1 0 5 rfl).trans d6, wnat (by omega)]; omega) ?_
    rw [i2]
    exact hk t i1 i3 i4 i5 i7 i8
theorem find_eq {F nb nj L : Nat} {mo : Nat → Nat} {may : Pl} {fx : Nat → Nat → Int} {s0 : St} (hD : PD nb nj L mo may fx s0) (hF : 100 ≤ F) : T (f_M_find F s0) (FPOST nb nj L mo may fx s0) := by
  obtain ⟨d1, d2, d3, d4, d5, d6, d7, d8, d9, d10, d11⟩ := id hD
  unfold f_M_find
  refine loopG (l := fun n (s : St) x => l_M_find_4 F _ n s 0 (x : Nat)) (N := nj) (I := fun k s => frs KF s0 s ∧ ∀ j, j < k → s 16 j = 0) (G := fun r => T r (FPOST nb nj L mo may fx s0)) ?_ ?_ nj 0 F s0 (by omega) (by omega) ⟨frs_refl _ _, fun j h => absurd h (Nat.not_lt_zero j)⟩
  · intro n k s hk hI next
    show T (b_M_find_4 F (l_M_find_4 F _ n) _ s 0 k) _
    unfold b_M_find_4
    refine T_no (by rw [(hI.1 0 5 rfl).trans d6, wnat (by omega), wnat (by omega)]; omega) (T_gd (inbN (show k < 12 by omega) (by decide)) ?_)
    show T (l_M_find_4 F _ n (put s 16 (ix (k : Int)) 0) 0 ((k : Int) + 1)) _
    rw [ix_nat (by omega)]
    refine next _ ⟨frs_put hI.1 rfl, fun i hi => ?_⟩
    rw [put_at]
    by_cases e : i = k
    · rw [if_pos e]
    · rw [if_neg e]; exact hI.2 i (by omega)
  · intro n s hI
    obtain ⟨f1, z1⟩ := hI
    show T (b_M_find_4 F (l_M_find_4 F _ n) _ s 0 nj) _
    unfold b_M_find_4
    refine T_yes (by rw [(f1 0 5 rfl).trans d6, wnat (by omega)]; omega) ?_
    refine loopG (l := fun n (a : St × Nat) x => l_M_find_27 F _ n a.1 (a.2 : Nat) (x : Nat)) (N := nb) (I := fun B a => frs KF s0 a.1 ∧ a.2 = fb_sm (rowc nj (baF fx)) B ∧ (∀ b, b < B → a.1 15 b = (fb_ct (baF fx b) nj : Nat)) ∧ (∀ j, j < nj → a.1 16 j = (fb_ct (fun b => baF fx b j) B : Nat)) ∧ ∀ b j, b < B → j < nj → a.1 10 (12 * b + j) = b2i (baF fx b j)) (G := fun r => T r (FPOST nb nj L mo may fx s0)) ?_ ?_ nb 0 F (s, 0) (by omega) (by omega) ⟨f1, rfl, fun b h => absurd h (Nat.not_lt_zero b), fun j hj => z1 j hj, fun b j h => absurd h (Nat.not_lt_zero b)⟩
    · intro n B a hB hI next
      obtain ⟨t, u⟩ := a
      obtain ⟨i1, i2, i3, i4, i5⟩ := hI
      have i1 : frs KF s0 t := i1
      have i2 : u = fb_sm (rowc nj (baF fx)) B := i2
      have i3 : ∀ b, b < B → t 15 b = (fb_ct (baF fx b) nj : Nat) := i3
      have i4 : ∀ j, j < nj → t 16 j = (fb_ct (fun b => baF fx b j) B : Nat) := i4
      have i5 : ∀ b j, b < B → j < nj → t 10 (12 * b + j) = b2i (baF fx b j) := i5
      show T (b_M_find_27 F (l_M_find_27 F _ n) _ t (u : Nat) B) _
      unfold b_M_find_27
      refine T_no (by rw [(i1 0 4 rfl).trans d5, wnat (by omega), wnat (by omega)]; omega) (T_gd (inbN (show B < 24 by omega) (by decide)) ?_)
      show T (l_M_find_44 F (fun s4 x1_5 x2_6 => l_M_find_27 F _ n s4 x1_5 (x2_6 + 1)) F (put t 15 (ix (B : Int)) 0) (u : Nat) B 0) _
      rw [ix_nat (by omega)]
      refine find_44 hD hB (frs_put i1 rfl) (put_eq _ _ _ _) (fun t2 g1 g2 g3 g4 g5 g6 => ?_) hF
      refine next (t2, u + fb_ct (baF fx B) nj) ⟨g1, ?_, fun b hb => ?_, fun j hj => ?_, fun b j hb hj => ?_⟩
      · show u + fb_ct (baF fx B) nj = fb_sm (rowc nj (baF fx)) (B + 1)
        rw [fb_sm_succ, i2]
        rfl
      · show t2 15 b = _
        by_cases e : b = B
        · rw [e]; exact g3
        · rw [g2 b e, put_at, if_neg e]; exact i3 b (by omega)
      · show t2 16 j = _
        rw [g4 j hj, show (put t 15 B 0) 16 j = t 16 j from rfl, i4 j hj, fb_ct_succ]
        unfold b2i
        split <;> simp
      · show t2 10 (12 * b + j) = _
        by_cases e : b = B
        · rw [e]; exact g5 j hj
        · rw [g6 b j e (by omega)]; exact i5 b j (by omega) hj
    · intro n a hI
      obtain ⟨t, u⟩ := a
      obtain ⟨i1, i2, i3, i4, i5⟩ := hI
      have i1 : frs KF s0 t := i1
      have i2 : u = fb_sm (rowc nj (baF fx)) nb := i2
      have i3 : ∀ b, b < nb → t 15 b = (fb_ct (baF fx b) nj : Nat) := i3
      have i4 : ∀ j, j < nj → t 16 j = (fb_ct (fun b => baF fx b j) nb : Nat) := i4
      have i5 : ∀ b j, b < nb → j < nj → t 10 (12 * b + j) = b2i (baF fx b j) := i5
      have hbs : ∀ b j, b < nb → j < nj → pM t b j = baF fx b j := by
        intro b j hb hj
        unfold pM
        rw [i5 b j hb hj]
        cases baF fx b j <;> simp [b2i, show j < 12 by omega]
      have hrow : ∀ b, b < nb → rowc nj (pM t) b = fb_ct (baF fx b) nj := fun b hb => fb_ct_cong (fun j hj => hbs b j hb hj)
      have hcol : ∀ j, j < nj → colc nb (pM t) j = fb_ct (fun b => baF fx b j) nb := fun j hj => fb_ct_cong (fun b hb => hbs b j hb hj)
      show T (b_M_find_27 F (l_M_find_27 F _ n) _ t (u : Nat) nb) _
      unfold b_M_find_27
      refine T_yes (by rw [(i1 0 4 rfl).trans d5, wnat (by omega)]; omega) ?_
      have hu : u = tot nb nj (pM t) := by
        rw [i2]
        exact fb_sm_cong (fun b hb => (hrow b hb).symm)
      rw [hu]
      refine find_134 hD i1 (fun b j hb hj => ?_) (fun j hj => ?_) (fun b hb => ?_) hbs hF
      · rw [i5 b j hb hj]
        cases baF fx b j
        · exact .inl rfl
        · exact .inr rfl
      · rw [i4 j hj, hcol j hj]
      · rw [i3 b hb, hrow b hb]
