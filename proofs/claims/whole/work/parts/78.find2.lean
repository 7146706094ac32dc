def FPOST (nb nj L : Nat) (mo : Nat → Nat) (may : Pl) (fx : Nat → Nat → Int) (s0 : St) (q : Int × St) : Prop := frs KF s0 q.2 ∧ ((q.1 = -1 ∧ ∀ p, ¬ FE nb nj (frP may fx) (baF fx) L mo p) ∨ ∃ p, FE nb nj (frP may fx) (baF fx) L mo p ∧ q.1 = (tot nb nj p : Nat) ∧ ∀ p2, FE nb nj (frP may fx) (baF fx) L mo p2 → tot nb nj p2 ≤ tot nb nj p)
/-- the state within a finding, plan p -/
def FS (nb nj : Nat) (mo : Nat → Nat) (may : Pl) (fx : Nat → Nat → Int) (s0 s : St) : Prop := frs KF s0 s ∧ N01 nb nj s ∧ (∀ j, j < nj → s 16 j = colc nb (pM s) j ∧ colc nb (pM s) j ≤ mo j) ∧ (∀ b, b < nb → s 15 b = rowc nj (pM s) b) ∧ ∀ b j, b < nb → j < nj → frP may fx b j = false → pM s b j = baF fx b j
theorem CL_0 {nb nj : Nat} {fr p : Pl} {mo : Nat → Nat} : CL nb nj fr mo p (fun _ => false) (fun _ => false) := by
  refine ⟨fun b j _ _ h => ?_, fun b j _ _ h => ?_, fun j _ h => ?_⟩ <;> exact absurd h Bool.false_ne_true
theorem FE_base {nb nj L : Nat} {mo : Nat → Nat} {may : Pl} {fx : Nat → Nat → Int} {p : Pl} (h : FE nb nj (frP may fx) (baF fx) L mo p) {b j : Nat} (hb : b < nb) (hj : j < nj) (hx : baF fx b j = true) : p b j = true := by
  rw [h.1 b j hb hj ?_]
  · exact hx
  · unfold baF at hx
    have hx := of_decide_eq_true hx
    unfold frP
    simp [hx]
theorem find_190 {F nb nj L : Nat} {mo : Nat → Nat} {may : Pl} {fx : Nat → Nat → Int} {s0 : St} (hD : PD nb nj L mo may fx s0) {b : Nat} (hb : b < nb) {k1 k217 : St → Int → Int → Option (Int × St)} {P : Int × St → Prop} {s : St} (hS : FS nb nj mo may fx s0 s) {VB VJ : Nat → Bool} (hC : CL nb nj (frP may fx) mo (pM s) VB VJ) (hr : rowc nj (pM s) b ≤ L) (hk : ∀ (t : St) (WB WJ : Nat → Bool), FS nb nj mo may fx s0 t → CL nb nj (frP may fx) mo (pM t) WB WJ → (∀ b2, VB b2 = true → WB b2 = true) → (∀ b2, b2 ≠ b → rowc nj (pM t) b2 = rowc nj (pM s) b2) → rowc nj (pM t) b ≤ L → (WB b = true ∨ rowc nj (pM t) b = L) → T (k217 t (tot nb nj (pM t) : Nat) b) P) (hF : 100 ≤ F) : T (l_M_find_190 F k1 k217 F s (tot nb nj (pM s) : Nat) b) P := by
  obtain ⟨d1, d2, d3, d4, d5, d6, d7, d8, d9, d10, d11⟩ := id hD
  refine loopW (l := fun n (t : St) => l_M_find_190 F k1 k217 n t (tot nb nj (pM t) : Nat) b) (I := fun t => FS nb nj mo may fx s0 t ∧ CL nb nj (frP may fx) mo (pM t) VB VJ ∧ (∀ b2, b2 ≠ b → rowc nj (pM t) b2 = rowc nj (pM s) b2) ∧ rowc nj (pM t) b ≤ L) (mu := fun t => L - rowc nj (pM t) b) (G := fun r => T r P) ?_ 4 F s (by show L - rowc nj (pM s) b ≤ 4; omega) (by omega) ⟨hS, hC, fun _ _ => rfl, hr⟩
  intro n t hI next
  obtain ⟨i1, i2, i3, i4⟩ := hI
  have i10 := i1
  obtain ⟨f1, f2, f3, f4, f5⟩ := i1
  have hDt := PD_fr hD f1
  show T (b_M_find_190 F (l_M_find_190 F k1 k217 n) k1 k217 t (tot nb nj (pM t) : Nat) b) P
  unfold b_M_find_190
  refine T_gd (inbN (show b < 24 by omega) (by decide)) ?_
  rw [ix_nat (by omega), f4 b hb, (f1 0 6 rfl).trans d7]
  by_cases c : rowc nj (pM t) b = L
  · exact T_yes (by rw [wnat (by omega), wnat (by omega)]; omega) (hk t VB VJ i10 i2 (fun _ h => h) i3 i4 (.inr c))
  · refine T_no (by rw [wnat (by omega), wnat (by omega)]; omega) (T_bind (T_mono (grows_eq hDt f2 hb f3 (by omega)) (fun q hq => ?_)))
    obtain ⟨r, t2⟩ := q
    obtain ⟨g1, g2, g3⟩ := hq
    have g1 : frs KF t t2 := g1
    rcases g3 with ⟨e1, e2, e3, e4, WB, WJ, e5, e6⟩ | ⟨e1, last, e2, e3, e4, e5, e6, e7⟩
    · have e1 : r = 0 := e1
      have e2 : pM t2 = pM t := e2
      refine T_yes (by show w32 r = 0; rw [e1]; decide) ?_
      show T (k217 t2 (tot nb nj (pM t) : Nat) b) P
      rw [← e2]
      refine hk t2 (fun b2 => VB b2 || WB b2) (fun j2 => VJ j2 || WJ j2) ⟨frs_trans f1 g1, g2, fun j hj => ?_, fun b2 hb2 => ?_, ?_⟩ ?_ (fun b2 h => by show (VB b2 || WB b2) = true; rw [h]; rfl) ?_ ?_ (.inl (by show (VB b || WB b) = true; rw [e6]; simp))
      · rw [e2, show t2 16 j = t 16 j from e4 j]; exact f3 j hj
      · rw [e2, show t2 15 b2 = t 15 b2 from e3 b2]; exact f4 b2 hb2
      · rw [e2]; exact f5
      · rw [e2]; exact CL_union i2 e5
      · rw [e2]; exact i3
      · rw [e2]; exact i4
    · have e1 : r = 1 := e1
      have e4 : AR nb nj (frP may fx) (pM t) (pM t2) last b := e4
      refine T_no (by show ¬ w32 r = 0; rw [e1]; decide) ?_
      show T (l_M_find_190 F k1 k217 n t2 (((tot nb nj (pM t) : Nat) : Int) + 1) b) P
      rw [show ((tot nb nj (pM t) : Nat) : Int) + 1 = ((tot nb nj (pM t2) : Nat) : Int) by rw [AR_tot e4 hb]; omega]
      have hrb : rowc nj (pM t2) b = rowc nj (pM t) b + 1 := by rw [e4.1 b, if_pos rfl]
      refine next t2 ⟨⟨frs_trans f1 g1, g2, fun j hj => ?_, fun b2 hb2 => ?_, fun b2 j hb2 hj hf => ?_⟩, CL_keep i2 (e7 VB VJ i2), fun b2 hb2 => ?_, by omega⟩ (by show L - rowc nj (pM t2) b < L - rowc nj (pM t) b; omega)
      · rw [e4.2.1 j]
        have z := f3 j hj
        have z2 : t2 16 j = t 16 j + if j = last then 1 else 0 := e5 j
        rw [z2, z.1]
        by_cases e : j = last
        · rw [if_pos e, if_pos e, e]; exact ⟨by omega, by omega⟩
        · rw [if_neg e, if_neg e]; exact ⟨by omega, by omega⟩
      · rw [e4.1 b2]
        have z2 : t2 15 b2 = t 15 b2 + if b2 = b then 1 else 0 := e6 b2
        rw [z2, f4 b2 hb2]
        by_cases e : b2 = b
        · rw [if_pos e, if_pos e]; omega
        · rw [if_neg e, if_neg e]; omega
      · rw [e4.2.2 b2 j hf]; exact f5 b2 j hb2 hj hf
      · rw [e4.1 b2, if_neg hb2]; exact i3 b2 hb2
theorem find_167 {F nb nj L : Nat} {mo : Nat → Nat} {may : Pl} {fx : Nat → Nat → Int} {s0 : St} (hD : PD nb nj L mo may fx s0) {s : St} (hS : FS nb nj mo may fx s0 s) (hbs : ∀ b j, b < nb → j < nj → pM s b j = baF fx b j) (hF : 100 ≤ F) : T (l_M_find_167 F (fun s7 x1_8 => some (x1_8, s7)) F s (tot nb nj (pM s) : Nat) 0) (FPOST nb nj L mo may fx s0) := by
  obtain ⟨d1, d2, d3, d4, d5, d6, d7, d8, d9, d10, d11⟩ := id hD
  refine loopG (l := fun n (t : St) x => l_M_find_167 F (fun s7 x1_8 => some (x1_8, s7)) n t (tot nb nj (pM t) : Nat) (x : Nat)) (N := nb) (I := fun b t => FS nb nj mo may fx s0 t ∧ (∀ b2, b ≤ b2 → rowc nj (pM t) b2 = rowc nj (pM s) b2) ∧ (∀ b2, b2 < b → rowc nj (pM t) b2 ≤ L) ∧ ∃ VB VJ, CL nb nj (frP may fx) mo (pM t) VB VJ ∧ ∀ b2, b2 < b → VB b2 = false → rowc nj (pM t) b2 = L) (G := fun r => T r (FPOST nb nj L mo may fx s0)) ?_ ?_ nb 0 F s (by omega) (by omega) ⟨hS, fun _ _ => rfl, fun b2 h => absurd h (Nat.not_lt_zero b2), fun _ => false, fun _ => false, CL_0, fun b2 h => absurd h (Nat.not_lt_zero b2)⟩
  · intro n b t hb hI next
    obtain ⟨i1, i2, i3, VB, VJ, i4, i5⟩ := hI
    have i10 := i1
    obtain ⟨f1, f2, f3, f4, f5⟩ := i1
    show T (b_M_find_167 F (l_M_find_167 F (fun s7 x1_8 => some (x1_8, s7)) n) (fun s7 x1_8 => some (x1_8, s7)) t (tot nb nj (pM t) : Nat) b) _
    unfold b_M_find_167
    have hct : rowc nj (pM t) b ≤ nj := fb_ct_le _ nj
    refine T_no (by rw [(f1 0 4 rfl).trans d5, wnat (by omega), wnat (by omega)]; omega) (T_gd (inbN (show b < 24 by omega) (by decide)) ?_)
    rw [ix_nat (by omega), f4 b hb, (f1 0 6 rfl).trans d7, wnat (by omega), wnat (by omega)]
    refine T_if (fun c => ?_) (fun c => T_some ⟨f1, .inl ⟨rfl, fun p hp => ?_⟩⟩)
    · refine find_190 hD hb i10 i4 (by omega) (fun t2 WB WJ h1 h2 h3 h4 h5 h6 => ?_) hF
      rw [show (b : Int) + 1 = ((b + 1 : Nat) : Int) by omega]
      refine next t2 ⟨h1, fun b2 hb2 => ?_, fun b2 hb2 => ?_, WB, WJ, h2, fun b2 hb2 hw => ?_⟩
      · rw [h4 b2 (by omega)]; exact i2 b2 (by omega)
      · by_cases e : b2 = b
        · rw [e]; exact h5
        · rw [h4 b2 e]; exact i3 b2 (by omega)
      · by_cases e : b2 = b
        · rw [e] at hw ⊢
          rcases h6 with h6 | h6
          · rw [h6] at hw; cases hw
          · exact h6
        · rw [h4 b2 e]
          refine i5 b2 (by omega) ?_
          cases ev : VB b2 with
          | false => rfl
          | true => rw [h3 b2 ev] at hw; cases hw
    · have h1 := i2 b (Nat.le_refl b)
      have h2 := hp.2.1 b hb
      have h3 : rowc nj (pM s) b ≤ rowc nj p b := fb_ct_sub (fun k hk e => by
        rw [hbs b k hb hk] at e
        exact FE_base hp hb hk e)
      omega
  · intro n t hI
    obtain ⟨i1, i2, i3, VB, VJ, i4, i5⟩ := hI
    obtain ⟨f1, f2, f3, f4, f5⟩ := i1
    show T (b_M_find_167 F (l_M_find_167 F (fun s7 x1_8 => some (x1_8, s7)) n) (fun s7 x1_8 => some (x1_8, s7)) t (tot nb nj (pM t) : Nat) nb) _
    unfold b_M_find_167
    have hfe : FE nb nj (frP may fx) (baF fx) L mo (pM t) := ⟨f5, i3, fun j hj => (f3 j hj).2⟩
    exact T_yes (by rw [(f1 0 4 rfl).trans d5, wnat (by omega)]; omega) (T_some ⟨f1, .inr ⟨pM t, hfe, rfl, fun p2 hp2 => CERT hfe hp2 i4 i5⟩⟩)
theorem find_134 {F nb nj L : Nat} {mo : Nat → Nat} {may : Pl} {fx : Nat → Nat → Int} {s0 : St} (hD : PD nb nj L mo may fx s0) {s : St} (f1 : frs KF s0 s) (f2 : N01 nb nj s) (f3 : ∀ j, j < nj → s 16 j = colc nb (pM s) j) (f4 : ∀ b, b < nb → s 15 b = rowc nj (pM s) b) (hbs : ∀ b j, b < nb → j < nj → pM s b j = baF fx b j) (hF : 100 ≤ F) : T (l_M_find_134 F (fun s5 x1_6 => l_M_find_167 F (fun s7 x1_8 => some (x1_8, s7)) F s5 x1_6 0) F s (tot nb nj (pM s) : Nat) 0) (FPOST nb nj L mo may fx s0) := by
  obtain ⟨d1, d2, d3, d4, d5, d6, d7, d8, d9, d10, d11⟩ := id hD
  refine loopG (l := fun n (t : Unit) x => l_M_find_134 F (fun s5 x1_6 => l_M_find_167 F (fun s7 x1_8 => some (x1_8, s7)) F s5 x1_6 0) n s (tot nb nj (pM s) : Nat) (x : Nat)) (N := nj) (I := fun j _ => ∀ j2, j2 < j → colc nb (pM s) j2 ≤ mo j2) (G := fun r => T r (FPOST nb nj L mo may fx s0)) ?_ ?_ nj 0 F () (by omega) (by omega) (fun j2 h => absurd h (Nat.not_lt_zero j2))
  · intro n j t hj hI next
    show T (b_M_find_134 F _ _ s (tot nb nj (pM s) : Nat) j) _
    unfold b_M_find_134
    have hct : colc nb (pM s) j ≤ nb := fb_ct_le _ nb
    have hmo := d8 j hj
    refine T_no (by rw [(f1 0 5 rfl).trans d6, wnat (by omega), wnat (by omega)]; omega) (T_gd (inbN (show j < 12 by omega) (by decide)) (T_gd (inbN (show j < 12 by omega) (by decide)) ?_))
    rw [ix_nat (by omega), f3 j hj, (f1 7 j rfl).trans hmo.1, wnat (by omega), wnat (by omega)]
    refine T_if (fun c => ?_) (fun c => T_some ⟨f1, .inl ⟨rfl, fun p hp => ?_⟩⟩)
    · refine next () (fun j2 hj2 => ?_)
      by_cases e : j2 = j
      · rw [e]; omega
      · exact hI j2 (by omega)
    · have h2 := hp.2.2 j hj
      have h3 : colc nb (pM s) j ≤ colc nb p j := fb_ct_sub (fun k hk e => by
        rw [hbs k j hk hj] at e
        exact FE_base hp hk hj e)
      omega
  · intro n t hI
    show T (b_M_find_134 F _ _ s (tot nb nj (pM s) : Nat) nj) _
    unfold b_M_find_134
    refine T_yes (by rw [(f1 0 5 rfl).trans d6, wnat (by omega)]; omega) ?_
    exact find_167 hD ⟨f1, f2, fun j hj => ⟨f3 j hj, hI j hj⟩, f4, fun b j hb hj _ => hbs b j hb hj⟩ hbs hF
