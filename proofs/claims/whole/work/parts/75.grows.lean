def pM (s : St) : Pl := fun b j => decide (j < 12) && !decide (s 10 (12 * b + j) = 0)
theorem pM_put {s : St} {b j : Nat} {v : Int} (hj : j < 12) : pM (put s 10 (12 * b + j) v) = upl (pM s) b j (!decide (v = 0)) := by
  funext b2 j2
  unfold pM upl
  rw [put_at]
  by_cases e : b2 = b ∧ j2 = j
  · rw [if_pos e, e.1, e.2, if_pos rfl]
    simp [hj]
  · rw [if_neg e]
    by_cases h2 : j2 < 12
    · rw [if_neg (fun z => e (by omega))]
    · simp [h2]
theorem pM_cong {s t : St} (h : ∀ i, t 10 i = s 10 i) : pM t = pM s := by
  funext b j
  unfold pM
  rw [h]
def N01 (nb nj : Nat) (s : St) : Prop := ∀ b j, b < nb → j < nj → s 10 (12 * b + j) = 0 ∨ s 10 (12 * b + j) = 1
def K10 (c j : Nat) : Bool := c == 10
def KG (c j : Nat) : Bool := c == 12 || c == 13 || c == 17 || c == 18 || c == 19
def KF (c j : Nat) : Bool := c == 10 || c == 12 || c == 13 || c == 15 || c == 16 || c == 17 || c == 18 || c == 19
theorem KG_KF {s t : St} (h : frs KG s t) : frs KF s t := frs_sub h (fun c j e => by
  unfold KG at e; unfold KF
  simp only [Bool.or_eq_true, beq_iff_eq] at e ⊢
  omega)
theorem N01_w {nb nj : Nat} {s : St} (h : N01 nb nj s) (hn : nj ≤ 12) {b j : Nat} (hb : b < nb) (hj : j < nj) : w32 (s 10 (12 * b + j)) = 0 ↔ pM s b j = false := by
  unfold pM
  rcases h b j hb hj with e | e
  · rw [e]; simp [show w32 0 = 0 by decide]
  · rw [e]; simp [show w32 1 = 1 by decide]; omega
theorem turns_loop {F nb nj : Nat} {fr p : Pl} {mo : Nat → Nat} {rt : Nat → Prop} {LB LJ : Nat → Bool} {q : Nat → Nat} {sz last : Nat} {t0 : St} (hnb : nb ≤ 24) (hnj : nj ≤ 12) (hB : BF nb nj fr p rt LB LJ (t0 17) (t0 19) q sz) : ∀ (i n : Nat) (s : St) (j : Nat), i + 2 ≤ n → i < sz → j < nj → t0 17 j = q i → fr (q i) j = true → p (q i) j = false → WK nb nj fr p (pM s) q last j i → N01 nb nj s → frs K10 t0 s → (∀ VB VJ, CL nb nj fr mo p VB VJ → VJ last = false → WD p (pM s) VB VJ j) → T (l_M_turns_12 F (fun s4 => some s4) n s j) (fun s2 => frs K10 t0 s2 ∧ N01 nb nj s2 ∧ ∃ root, root < nb ∧ rt root ∧ AR nb nj fr p (pM s2) last root ∧ ∀ VB VJ, CL nb nj fr mo p VB VJ → VJ last = false → AD p (pM s2) VB VJ) := by
  intro i
  induction i using Nat.strongRecOn with
  | ind i ih =>
    intro n s j hn hi hj e17 hf hp hW hN hK hD
    obtain ⟨m, rfl⟩ : ∃ m, n = m + 1 := ⟨n - 1, by omega⟩
    have hq := (hB.1 i hi).1
    show T (b_M_turns_12 F (l_M_turns_12 F (fun s4 => some s4) m) (fun s4 => some s4) s j) _
    unfold b_M_turns_12
    have ixj : ix (j : Int) = j := ix_nat (by omega)
    have s17 : s 17 j = (q i : Int) := (hK 17 j rfl).trans e17
    have ixq : ix (q i : Int) = q i := ix_nat (by omega)
    refine T_no (by rw [wnat (by omega)]; omega) (T_gd (inbN (show j < 12 by omega) (by decide)) ?_)
    rw [ixj, s17, ixq]
    refine T_bind (T_eq at_eq (T_gd (inbN (show 12 * q i + j < 288 by omega) (by decide)) (T_gd (inbN (show q i < 24 by omega) (by decide)) ?_)))
    show T (if w32 ((put s 10 (ix ((12 * q i + j : Nat) : Int)) (nz 1)) 19 (q i)) < 0 then l_M_turns_12 F (fun s4 => some s4) m (put s 10 (ix ((12 * q i + j : Nat) : Int)) (nz 1)) ((put s 10 (ix ((12 * q i + j : Nat) : Int)) (nz 1)) 19 (q i)) else (f_M_at (put s 10 (ix ((12 * q i + j : Nat) : Int)) (nz 1)) (q i) ((put s 10 (ix ((12 * q i + j : Nat) : Int)) (nz 1)) 19 (q i))).bind fun q8 => gd (inb q8.1 288) (let s10 := put q8.2 10 (ix q8.1) (nz 0); l_M_turns_12 F (fun s4 => some s4) m s10 ((put s 10 (ix ((12 * q i + j : Nat) : Int)) (nz 1)) 19 (q i)))) _
    rw [ix_nat (show 12 * q i + j < 2147483648 by omega), nz_1, nz_0]
    have s19 : (put s 10 (12 * q i + j) 1) 19 (q i) = t0 19 (q i) := hK 19 (q i) rfl
    rw [s19]
    have hN1 : N01 nb nj (put s 10 (12 * q i + j) 1) := by
      intro b2 j2 h1 h2
      rw [put_at]
      by_cases e : 12 * b2 + j2 = 12 * q i + j
      · rw [if_pos e]; exact .inr rfl
      · rw [if_neg e]; exact hN b2 j2 h1 h2
    have hp1 : pM (put s 10 (12 * q i + j) 1) = upl (pM s) (q i) j true := pM_put (by omega)
    rcases hB.2.2.2.2 i hi with ⟨c1, c2⟩ | ⟨j2, c1, c2, c3, c4, i2, c5, c6⟩
    · rw [c1]
      refine T_yes (by decide) ?_
      obtain ⟨m2, rfl⟩ : ∃ m2, m = m2 + 1 := ⟨m - 1, by omega⟩
      show T (b_M_turns_12 F (l_M_turns_12 F (fun s4 => some s4) m2) (fun s4 => some s4) (put s 10 (12 * q i + j) 1) (-1)) _
      unfold b_M_turns_12
      refine T_yes (by decide) (T_some ⟨frs_put hK rfl, hN1, q i, hq, c2, ?_, fun VB VJ hc hl => ?_⟩)
      · rw [hp1]; exact WK_end hW hq hj hf hp
      · rw [hp1]; exact WD_end hc (hD VB VJ hc hl) hq hj hf hp
    · have hj2 : j2 < nj := (hB.2.2.2.1 j2 c2).1
      rw [c1]
      refine T_no (by rw [wnat (by omega)]; omega) (T_bind (T_eq at_eq (T_gd (inbN (show 12 * q i + j2 < 288 by omega) (by decide)) ?_)))
      show T (l_M_turns_12 F (fun s4 => some s4) m (put (put s 10 (12 * q i + j) 1) 10 (ix ((12 * q i + j2 : Nat) : Int)) 0) j2) _
      rw [ix_nat (show 12 * q i + j2 < 2147483648 by omega)]
      have hp2 : pM (put (put s 10 (12 * q i + j) 1) 10 (12 * q i + j2) 0) = upl (upl (pM s) (q i) j true) (q i) j2 false := by
        rw [pM_put (by omega), hp1]
        rfl
      obtain ⟨a0, i3, a1, a2, a3, a4⟩ := hB.2.2.2.1 j2 c2
      have e32 : i3 = i2 := hB.2.2.1 i3 i2 a1 (by omega) (by rw [a2] at c6; omega)
      rw [e32] at a1 a2 a3 a4
      refine ih i2 c5 m _ j2 (by omega) a1 hj2 a2 a3 a4 ?_ ?_ (frs_put (frs_put hK rfl) rfl) (fun VB VJ hc hl => ?_)
      · rw [hp2]
        refine WK_step hW hq hj hf hp hj2 c3 c4 c5 (fun k hk e => ?_)
        have := hB.2.2.1 k i (by omega) hi e
        omega
      · intro b2 j3 h1 h2
        rw [put_at]
        by_cases e : 12 * b2 + j3 = 12 * q i + j2
        · rw [if_pos e]; exact .inl rfl
        · rw [if_neg e]; exact hN1 b2 j3 h1 h2
      · rw [hp2]; exact WD_step hc (hD VB VJ hc hl) hq hj hf hp hj2 c3 c4
/-! data of the planning -/
def PD (nb nj L : Nat) (mo : Nat → Nat) (may : Pl) (fx : Nat → Nat → Int) (s : St) : Prop := nb ≤ 24 ∧ nj ≤ 12 ∧ 1 ≤ L ∧ L ≤ 4 ∧ s 0 4 = nb ∧ s 0 5 = nj ∧ s 0 6 = L ∧ (∀ j, j < nj → s 7 j = mo j ∧ mo j ≤ 24 ∧ i32 (s 6 j)) ∧ (∀ b, b < nb → i32 (s 3 b)) ∧ (∀ b j, b < nb → j < nj → mayB s j b = may b j) ∧ ∀ b j, b < nb → j < nj → s 14 (12 * b + j) = fx b j ∧ (fx b j = 0 ∨ fx b j = 1 ∨ fx b j = 2)
def frP (may : Pl) (fx : Nat → Nat → Int) : Pl := fun b j => may b j && decide (fx b j = 0)
def baF (fx : Nat → Nat → Int) : Pl := fun b j => decide (fx b j = 1)
theorem PD_fr {nb nj L : Nat} {mo : Nat → Nat} {may : Pl} {fx : Nat → Nat → Int} {s t : St} (h : PD nb nj L mo may fx s) (f : frs KF s t) : PD nb nj L mo may fx t := by
  obtain ⟨d1, d2, d3, d4, d5, d6, d7, d8, d9, d10, d11⟩ := h
  refine ⟨d1, d2, d3, d4, (f 0 4 rfl).trans d5, (f 0 5 rfl).trans d6, (f 0 6 rfl).trans d7, fun j hj => ?_, fun b hb => ?_, fun b j hb hj => ?_, fun b j hb hj => ?_⟩
  · rw [f 7 j rfl, f 6 j rfl]; exact d8 j hj
  · rw [f 3 b rfl]; exact d9 b hb
  · rw [← d10 b j hb hj]
    unfold mayB
    rw [f 5 j rfl, f 1 b rfl, f 6 j rfl, f 3 b rfl]
  · rw [f 14 _ rfl]; exact d11 b j hb hj
theorem mayP_eq {nb nj L : Nat} {mo : Nat → Nat} {may : Pl} {fx : Nat → Nat → Int} {s : St} (h : PD nb nj L mo may fx s) {b j : Nat} (hb : b < nb) (hj : j < nj) : f_M_mayOf s j b = some (b01 (may b j = true), s) := by
  obtain ⟨d1, d2, d3, d4, d5, d6, d7, d8, d9, d10, d11⟩ := h
  rw [mayM_eq (by omega) (by omega) (d8 j hj).2.2 (d9 b hb), d10 b j hb hj]
theorem isFree_eq {nb nj L : Nat} {mo : Nat → Nat} {may : Pl} {fx : Nat → Nat → Int} {s : St} (h : PD nb nj L mo may fx s) {b j : Nat} (hb : b < nb) (hj : j < nj) : f_M_isFree s b j = some (b01 (frP may fx b j = true), s) := by
  unfold f_M_isFree
  rw [mayP_eq h hb hj]
  obtain ⟨d1, d2, d3, d4, d5, d6, d7, d8, d9, d10, d11⟩ := h
  show (if w32 (b01 (may b j = true)) = 0 then some (0, s) else (f_M_at s b j).bind fun q3 => gd (inb q3.1 288) (if w32 (q3.2 14 (ix q3.1)) = 0 then some (1, q3.2) else some (0, q3.2))) = _
  unfold frP
  by_cases c : may b j = true
  · rw [if_neg (fun q => b01_0.mp q c), at_eq]
    show gd (inb ((12 * b + j : Nat) : Int) 288) (if w32 (s 14 (ix ((12 * b + j : Nat) : Int))) = 0 then some (1, s) else some (0, s)) = _
    rw [gd_yes (inbN (by omega) (by decide)), ix_nat (by omega), (d11 b j hb hj).1]
    have z := (d11 b j hb hj).2
    rw [wid (a := fx b j) (by omega) (by omega)]
    by_cases c2 : fx b j = 0
    · rw [if_pos c2, b01_of (by simp [c, c2])]
    · rw [if_neg c2, b01_not (by simp [c2])]
  · rw [if_pos (b01_0.mpr c), b01_not (by simp [c])]
def LBs (nb : Nat) (s : St) (b : Nat) : Bool := decide (b < nb) && !decide (s 13 b = 0)
def LJs (nj : Nat) (s : St) (j : Nat) : Bool := decide (j < nj) && !decide (s 12 j = 0)
def qs (s : St) (i : Nat) : Nat := (s 18 i).toNat
def GI (nb nj : Nat) (mo : Nat → Nat) (fr p : Pl) (b0 : Nat) (s0 : St) (sz k jj cc : Nat) (s : St) : Prop := frs KG s0 s ∧ BF nb nj fr p (fun b => b = b0) (LBs nb s) (LJs nj s) (s 17) (s 19) (qs s) sz ∧ (∀ i, i < sz → s 18 i = (qs s i : Int)) ∧ (∀ b, b < nb → s 13 b = 0 ∨ s 13 b = 1) ∧ (∀ j, j < nj → s 12 j = 0 ∨ s 12 j = 1) ∧ (∀ j, LJs nj s j = true → colc nb p j = mo j ∧ ∀ c, c < nb → (j = jj → c < cc) → p c j = true → fr c j = true → LBs nb s c = true) ∧ (∀ i, i < k → ∀ j, j < nj → fr (qs s i) j = true → p (qs s i) j = false → LJs nj s j = true) ∧ k ≤ sz
theorem LBs_put {nb : Nat} {s : St} {c : Nat} (hc : c < nb) (b : Nat) : LBs nb (put s 13 c 1) b = (decide (b = c) || LBs nb s b) := by
  unfold LBs
  rw [put_at]
  by_cases e : b = c
  · rw [if_pos e, e]; simp [hc]
  · rw [if_neg e]; simp [e]
theorem LJs_put {nj : Nat} {s : St} {c : Nat} (hc : c < nj) (b : Nat) : LJs nj (put s 12 c 1) b = (decide (b = c) || LJs nj s b) := by
  unfold LJs
  rw [put_at]
  by_cases e : b = c
  · rw [if_pos e, e]; simp [hc]
  · rw [if_neg e]; simp [e]
theorem grows_190 {sA : St} {zA : Nat} {F nb nj L : Nat} {mo : Nat → Nat} {may : Pl} {fx : Nat → Nat → Int} {b0 : Nat} {s0 : St} (hD : PD nb nj L mo may fx s0) (hN : N01 nb nj s0) {k jj : Nat} (hjj : jj < nj) {x1 x3 x4 : Int} {kk : St → Int → Int → Int → Int → Int → Option (Int × St)} {P : Int × St → Prop} (hk : ∀ s sz2, GI nb nj mo (frP may fx) (pM s0) b0 s0 sz2 k 12 0 s → LJs nj s jj = true → (zA ≤ sz2 ∧ (∀ i, i < zA → qs s i = qs sA i) ∧ ∀ x, LJs nj s x = LJs nj sA x) → T (kk s x1 (sz2 : Nat) x3 x4 jj) P) (hG : GI nb nj mo (frP may fx) (pM s0) b0 s0 zA k jj 0 sA) (hL : LJs nj sA jj = true) (hF : 30 ≤ F) : T (l_M_grows_190 F kk F sA x1 (zA : Nat) x3 x4 jj 0) P := by
  obtain ⟨d1, d2, d3, d4, d5, d6, d7, d8, d9, d10, d11⟩ := id hD
  refine loopG (l := fun n (a : St × Nat) x => l_M_grows_190 F kk n a.1 x1 (a.2 : Nat) x3 x4 jj (x : Nat)) (N := nb) (I := fun c a => GI nb nj mo (frP may fx) (pM s0) b0 s0 a.2 k jj c a.1 ∧ LJs nj a.1 jj = true ∧ zA ≤ a.2 ∧ (∀ i, i < zA → qs a.1 i = qs sA i) ∧ ∀ x, LJs nj a.1 x = LJs nj sA x) (G := fun r => T r P) ?_ ?_ nb 0 F (sA, zA) (by omega) (by omega) ⟨hG, hL, Nat.le_refl _, fun _ _ => rfl, fun _ => rfl⟩
  · intro n c a hc hI next
    obtain ⟨s, sz⟩ := a
    obtain ⟨⟨g1, g2, g3, g4, g5, g6, g7, g8⟩, hl, m1, m2, m3⟩ := hI
    have g1 : frs KG s0 s := g1
    have hl : LJs nj s jj = true := hl
    have hDs := PD_fr hD (KG_KF g1)
    have ic : inb (c : Int) 24 := inbN (show c < 24 by omega) (by decide)
    have ixc : ix (c : Int) = c := ix_nat (by omega)
    have s10 : ∀ i, s 10 i = s0 10 i := fun i => g1 10 i rfl
    have pe : pM s = pM s0 := pM_cong s10
    have hNs : N01 nb nj s := fun b j h1 h2 => by rw [s10]; exact hN b j h1 h2
    -- nothing done for c
    have skip : (LBs nb s c = true ∨ pM s0 c jj = false ∨ frP may fx c jj = false) → T (l_M_grows_190 F kk n s x1 (sz : Nat) x3 x4 jj ((c : Int) + 1)) P := by
      intro hn
      refine next (s, sz) ⟨⟨g1, g2, g3, g4, g5, fun j hj => ⟨(g6 j hj).1, fun c2 h1 h2 h3 h4 => ?_⟩, g7, g8⟩, hl, m1, m2, m3⟩
      by_cases e : j = jj ∧ c2 = c
      · obtain ⟨e1, e2⟩ := e
        rw [e1, e2] at h3 h4
        rw [e2]
        rcases hn with q | q | q
        · exact q
        · rw [q] at h3; cases h3
        · rw [q] at h4; cases h4
      · exact (g6 j hj).2 c2 h1 (fun e2 => by have := h2 e2; have : c2 ≠ c := fun z => e ⟨e2, z⟩; omega) h3 h4
    show T (b_M_grows_190 F (l_M_grows_190 F kk n) kk s x1 (sz : Nat) x3 x4 jj c) P
    unfold b_M_grows_190
    refine T_no (by rw [(g1 0 4 rfl).trans d5, wnat (by omega), wnat (by omega)]; omega) (T_gd ic ?_)
    rw [ixc]
    have w13 : w32 (s 13 c) = s 13 c := by have z : s 13 c = 0 ∨ s 13 c = 1 := g4 c (by omega); exact wid (by omega) (by omega)
    refine T_if (fun c1 => ?_) (fun c1 => skip (.inl ?_))
    · refine T_bind (T_eq at_eq (T_gd (inbN (show 12 * c + jj < 288 by omega) (by decide)) ?_))
      refine T_if (fun c2 => skip (.inr (.inl ?_))) (fun c2 => ?_)
      · have c2 : w32 (s 10 (ix ((12 * c + jj : Nat) : Int))) = 0 := c2
        rw [ix_nat (by omega)] at c2
        rw [← pe]
        exact (N01_w hNs d2 hc hjj).mp c2
      · have c2 : ¬ w32 (s 10 (ix ((12 * c + jj : Nat) : Int))) = 0 := c2
        rw [ix_nat (by omega)] at c2
        have pc : pM s0 c jj = true := by
          rw [← pe]
          cases e : pM s c jj with
          | true => rfl
          | false => exact absurd ((N01_w hNs d2 hc hjj).mpr e) c2
        refine T_bind (T_eq (isFree_eq hDs hc hjj) (T_if (fun c3 => skip (.inr (.inr ?_))) (fun c3 => ?_)))
        · have := b01_0.mp c3
          simpa using this
        · have fc : frP may fx c jj = true := Decidable.not_not.mp (fun q => c3 (b01_0.mpr q))
          have nl : LBs nb s c = false := by
            unfold LBs
            rw [w13] at c1
            simp [c1]
          have hsz := BF_lt g2 hc nl
          have hsz : sz < nb := hsz
          refine T_gd ic (T_gd ic (T_gd (inbN (show sz < 24 by omega) (by decide)) ?_))
          show T (l_M_grows_190 F kk n (put (put (put s 13 c (nz 1)) 19 c jj) 18 (ix ((sz : Nat) : Int)) c) x1 (((sz : Nat) : Int) + 1) x3 x4 jj ((c : Int) + 1)) P
          rw [ix_nat (show sz < 2147483648 by omega), nz_1, show ((sz : Nat) : Int) + 1 = ((sz + 1 : Nat) : Int) by omega]
          have hq2 : ∀ x, qs (put (put (put s 13 c 1) 19 c jj) 18 sz c) x = if x = sz then c else qs s x := by
            intro x
            unfold qs
            rw [put_at]
            by_cases e : x = sz
            · rw [if_pos e, if_pos e, Int.toNat_natCast]
            · rw [if_neg e, if_neg e]; rfl
          have hLB : ∀ x, LBs nb (put (put (put s 13 c 1) 19 c jj) 18 sz c) x = (decide (x = c) || LBs nb s x) := fun x => LBs_put (by omega) x
          have hB2 : BF nb nj (frP may fx) (pM s0) (fun b => b = b0) (LBs nb (put (put (put s 13 c 1) 19 c jj) 18 sz c)) (LJs nj (put (put (put s 13 c 1) 19 c jj) 18 sz c)) ((put (put (put s 13 c 1) 19 c jj) 18 sz c) 17) ((put (put (put s 13 c 1) 19 c jj) 18 sz c) 19) (qs (put (put (put s 13 c 1) 19 c jj) 18 sz c)) (sz + 1) := by
            refine BF_board (j := jj) g2 hc nl (.inl ⟨hl, pc, fc, fun x => ?_⟩) hLB hq2
            show (put (put s 13 c 1) 19 c jj) 19 x = _
            rw [put_at]
            rfl
          refine next (put (put (put s 13 c 1) 19 c jj) 18 sz c, sz + 1) ⟨⟨frs_put (frs_put (frs_put g1 rfl) rfl) rfl, hB2, fun i hi => ?_, fun b hb => ?_, g5, fun j hj => ⟨(g6 j hj).1, fun c2 h1 h2 h3 h4 => ?_⟩, fun i hi j hj h1 h2 => ?_, by show k ≤ sz + 1; have : k ≤ sz := g8; omega⟩, hl, by show zA ≤ sz + 1; have : zA ≤ sz := m1; omega, fun i hi => by show qs (put (put (put s 13 c 1) 19 c jj) 18 sz c) i = _; rw [hq2, if_neg (by have : zA ≤ sz := m1; omega)]; exact m2 i hi, m3⟩
          · show (put (put (put s 13 c 1) 19 c jj) 18 sz c) 18 i = _
            rw [hq2, put_at]
            by_cases e : i = sz
            · rw [if_pos e, if_pos e]
            · rw [if_neg e, if_neg e]
              have hi : i < sz + 1 := hi
              exact g3 i (by show i < sz; omega)
          · show (put s 13 c 1) 13 b = 0 ∨ (put s 13 c 1) 13 b = 1
            rw [put_at]
            by_cases e : b = c
            · rw [if_pos e]; exact .inr rfl
            · rw [if_neg e]; exact g4 b hb
          · show LBs nb (put (put (put s 13 c 1) 19 c jj) 18 sz c) c2 = true
            rw [hLB]
            by_cases e : c2 = c
            · simp [e]
            · rw [(g6 j hj).2 c2 h1 (fun e2 => by have := h2 e2; omega) h3 h4]
              simp
          · have hks : k ≤ sz := g8
            have h1 : frP may fx (qs (put (put (put s 13 c 1) 19 c jj) 18 sz c) i) j = true := h1
            have h2 : pM s0 (qs (put (put (put s 13 c 1) 19 c jj) 18 sz c) i) j = false := h2
            rw [hq2, if_neg (by omega)] at h1 h2
            exact g7 i hi j hj h1 h2
    · unfold LBs
      rw [w13] at c1
      simp [c1]
      omega
  · intro n a hI
    obtain ⟨s, sz⟩ := a
    obtain ⟨⟨g1, g2, g3, g4, g5, g6, g7, g8⟩, hl, m1, m2, m3⟩ := hI
    have g1 : frs KG s0 s := g1
    show T (b_M_grows_190 F (l_M_grows_190 F kk n) kk s x1 (sz : Nat) x3 x4 jj nb) P
    unfold b_M_grows_190
    refine T_yes (by rw [(g1 0 4 rfl).trans d5, wnat (by omega)]; omega) (hk s sz ⟨g1, g2, g3, g4, g5, fun j hj => ⟨(g6 j hj).1, fun c2 h1 h2 h3 h4 => (g6 j hj).2 c2 h1 (fun _ => h1) h3 h4⟩, g7, g8⟩ hl ⟨m1, m2, m3⟩)
