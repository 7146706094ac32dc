def XKT (c j : Nat) : Bool := XKL c j || (c == 11 && (j == 9 || j == 10))
theorem XKL_T {s t : St} (h : frs XKL s t) : frs XKT s t := frs_sub h (fun c j e => by unfold XKT; rw [e]; rfl)
theorem XP_T {nb nj L : Nat} {mo : Nat → Nat} {may : Pl} {s t : St} (h : XP nb nj L mo may s) (f : frs XKT s t) : XP nb nj L mo may t := by
  obtain ⟨d1, d2, d3, d4, d5, d6, d7, d8, d9⟩ := h
  refine ⟨d1, d2, d3, d4, (f 11 1 rfl).trans d5, (f 11 2 rfl).trans d6, (f 11 3 rfl).trans d7, fun j hj => ?_, fun b hb => ?_⟩
  · rw [f 12 j rfl]; exact d8 j hj
  · rw [f 13 b rfl]; exact d9 b hb
theorem XC_T {nb nj : Nat} {s t : St} (h : XC nb nj s) (e14 : ∀ b, t 14 b = s 14 b) (e15 : ∀ b, t 15 b = s 15 b) : XC nb nj t ∧ pX nb nj t = pX nb nj s := by
  unfold XC
  refine ⟨?_, ?_⟩
  · simp only [e14, e15]; exact h
  · funext b j
    unfold pX
    rw [e14]
def TFI (nb nj L : Nat) (mo : Nat → Nat) (may : Pl) (A : Nat) (s0 : St) (B J : Nat) (s : St) : Prop := frs XKT s0 s ∧ XC nb nj s ∧ FE nb nj may NOB L mo (pX nb nj s) ∧ tot nb nj (pX nb nj s) = A ∧ ∀ b j, b < nb → j < nj → BEF b j B J → (pX nb nj s b j = true ↔ may b j = true ∧ EXT nb nj may L mo A (pX nb nj s) b j)
theorem BEF_tr {b j b2 j2 B J : Nat} (x : BEF b2 j2 b j) (y : BEF b j B J) : BEF b2 j2 B J := by unfold BEF at *; omega
theorem turn_12 {F nb nj L A : Nat} {mo : Nat → Nat} {may : Pl} {s0 : St} (hP : XP nb nj L mo may s0) (hA : MAXP nb nj may L mo A) {B : Nat} (hB : B < nb) {k67 : St → Int → Option St} {Q : St → Prop} (hk : ∀ t, TFI nb nj L mo may A s0 (B + 1) 0 t → T (k67 t B) Q) {s : St} (hS : TFI nb nj L mo may A s0 B 0 s) (hF : 300 ≤ F) : T (l_Plan_turnToFirst_12 F k67 F s B 0) Q := by
  obtain ⟨d1, d2, d3, d4, d5, d6, d7, d8, d9⟩ := id hP
  refine loopG (l := fun n (t : St) x => l_Plan_turnToFirst_12 F k67 n t B (x : Nat)) (N := nj) (I := fun J t => TFI nb nj L mo may A s0 B J t) (G := fun r => T r Q) ?_ ?_ nj 0 F s (by omega) (by omega) hS
  · intro n J t hJ hI next
    obtain ⟨i1, i2, i3, i4, i5⟩ := hI
    show T (b_Plan_turnToFirst_12 F (l_Plan_turnToFirst_12 F k67 n) k67 t B J) Q
    unfold b_Plan_turnToFirst_12
    refine T_no (by rw [(i1 11 2 rfl).trans d6, wnat (by omega), wnat (by omega)]; omega) ?_
    have iB : inb (B : Int) 24 := inbN (show B < 24 by omega) (by decide)
    refine T_gd iB (T_gd iB ?_)
    rw [ix_nat (show B < 2147483648 by omega), show (J : Int) + 1 = ((J + 1 : Nat) : Int) by omega]
    obtain ⟨t3, ht3⟩ : ∃ t3, t3 = put (put t 11 9 B) 11 10 ((J + 1 : Nat) : Int) := ⟨_, rfl⟩
    show T (if w32 (andI (shrI (andI ((put (put t 11 9 B) 11 10 ((J + 1 : Nat) : Int)) 13 B) (xorI ((put (put t 11 9 B) 11 10 ((J + 1 : Nat) : Int)) 14 B) (-1))) J) 1) = w32 1 then (f_Plan_prefer F (put (put t 11 9 B) 11 10 ((J + 1 : Nat) : Int)) B J).bind fun q7 => l_Plan_turnToFirst_12 F k67 n q7 B ((J + 1 : Nat) : Int) else l_Plan_turnToFirst_12 F k67 n (put (put t 11 9 B) 11 10 ((J + 1 : Nat) : Int)) B ((J + 1 : Nat) : Int)) Q
    rw [← ht3]
    have f3 : frs XKT s0 t3 := by rw [ht3]; exact frs_put (frs_put i1 rfl) rfl
    have e9 : t3 11 9 = B := by rw [ht3, put_j (show (9 : Nat) ≠ 10 by decide), put_eq]
    have e10 : t3 11 10 = ((J + 1 : Nat) : Int) := by rw [ht3, put_eq]
    have e14 : ∀ b, t3 14 b = t 14 b := fun b => by rw [ht3, put_c (show (14 : Nat) ≠ 11 by decide), put_c (show (14 : Nat) ≠ 11 by decide)]
    have e15 : ∀ b, t3 15 b = t 15 b := fun b => by rw [ht3, put_c (show (15 : Nat) ≠ 11 by decide), put_c (show (15 : Nat) ≠ 11 by decide)]
    clear ht3
    have c3 := XC_T i2 e14 e15
    have hP3 := XP_T hP f3
    have hbit : bt (andI (t3 13 B) (xorI (t3 14 B) (-1))) J = (may B J && !pX nb nj t B J) := by
      rw [bt_and, bt_not _ (by omega), hP3.2.2.2.2.2.2.2.2 B hB J (by omega), ← pX_in (s := t3) hB hJ, c3.2]
      simp [hJ]
    rw [bitat _ (show J < 32 by omega), show w32 1 = 1 by decide, w_b01, hbit]
    -- the pair is settled without a change
    have keep : (pX nb nj t B J = true ↔ may B J = true ∧ EXT nb nj may L mo A (pX nb nj t) B J) → TFI nb nj L mo may A s0 B (J + 1) t3 := by
      intro hs
      refine ⟨f3, c3.1, by rw [c3.2]; exact i3, by rw [c3.2]; exact i4, fun b j hb hj hBf => ?_⟩
      rw [c3.2]
      by_cases e : b = B ∧ j = J
      · rw [e.1, e.2]; exact hs
      · exact i5 b j hb hj (by unfold BEF at *; omega)
    by_cases c : (may B J && !pX nb nj t B J) = true
    · rw [if_pos (b01_of c)]
      have c1 := (Bool.and_eq_true _ _).mp c
      have hPJ : pX nb nj t3 B J = false := by rw [c3.2]; simpa using c1.2
      refine T_bind (T_mono (prefer_eq hP3 c3.1 e9 e10 hB hJ hA (by rw [c3.2]; exact i3) (by rw [c3.2]; exact i4) c1.1 hPJ hF) (fun t4 h4 => ?_))
      obtain ⟨g1, g2, g3, g4, g5, g6⟩ := h4
      rw [c3.2] at g5 g6
      have cong : ∀ b j, BEF b j B J ∨ (b = B ∧ j = J) → ∀ b2 j2, b2 < nb → j2 < nj → BEF b2 j2 b j → pX nb nj t b2 j2 = pX nb nj t4 b2 j2 := by
        intro b j h b2 j2 hb2 hj2 h2
        refine (g5 b2 j2 hb2 hj2 ?_).symm
        rcases h with h | ⟨h, h3⟩
        · exact BEF_tr h2 h
        · rw [h, h3] at h2; exact h2
      refine next t4 ⟨frs_trans f3 (XKL_T g1), g2, g3, g4, fun b j hb hj hBf => ?_⟩
      by_cases e : b = B ∧ j = J
      · rw [e.1, e.2]
        have cg := cong B J (.inr ⟨rfl, rfl⟩)
        exact g6.trans ⟨fun x => ⟨c1.1, EXT_cong cg x⟩, fun x => EXT_cong (fun b2 j2 y1 y2 y3 => (cg b2 j2 y1 y2 y3).symm) x.2⟩
      · have hBf2 : BEF b j B J := by unfold BEF at *; omega
        rw [g5 b j hb hj hBf2]
        have cg := cong b j (.inl hBf2)
        exact (i5 b j hb hj hBf2).trans ⟨fun x => ⟨x.1, EXT_cong cg x.2⟩, fun x => ⟨x.1, EXT_cong (fun b2 j2 y1 y2 y3 => (cg b2 j2 y1 y2 y3).symm) x.2⟩⟩
    · rw [if_neg (by rw [b01_not c]; decide)]
      refine next t3 (keep ?_)
      cases e : pX nb nj t B J with
      | true => exact ⟨fun _ => ⟨FE_may i3 hB hJ e, ⟨_, i3, i4, e, fun _ _ _ _ _ => rfl⟩⟩, fun _ => rfl⟩
      | false =>
        rw [e] at c
        have hn : may B J = false := by simpa using c
        exact ⟨fun h => absurd h Bool.false_ne_true, fun h => by rw [hn] at h; exact absurd h.1 Bool.false_ne_true⟩
  · intro n t hI
    obtain ⟨i1, i2, i3, i4, i5⟩ := hI
    show T (b_Plan_turnToFirst_12 F (l_Plan_turnToFirst_12 F k67 n) k67 t B nj) Q
    unfold b_Plan_turnToFirst_12
    exact T_yes (by rw [(i1 11 2 rfl).trans d6, wnat (by omega)]; omega) (hk t ⟨i1, i2, i3, i4, fun b j hb hj hBf => i5 b j hb hj (by unfold BEF at *; omega)⟩)
theorem turn_eq {F nb nj L A : Nat} {mo : Nat → Nat} {may : Pl} {s0 : St} (hP : XP nb nj L mo may s0) (hA : MAXP nb nj may L mo A) (hX : XC nb nj s0) (hfe : FE nb nj may NOB L mo (pX nb nj s0)) (ht : tot nb nj (pX nb nj s0) = A) (hF : 300 ≤ F) : T (f_Plan_turnToFirst F s0) (fun t => frs XKT s0 t ∧ XC nb nj t ∧ FE nb nj may NOB L mo (pX nb nj t) ∧ tot nb nj (pX nb nj t) = A ∧ LEX nb nj may L mo A (pX nb nj t)) := by
  obtain ⟨d1, d2, d3, d4, d5, d6, d7, d8, d9⟩ := id hP
  unfold f_Plan_turnToFirst
  refine loopG (l := fun n (t : St) x => l_Plan_turnToFirst_2 F (fun s1 => some s1) n t (x : Nat)) (N := nb) (I := fun B t => TFI nb nj L mo may A s0 B 0 t) (G := fun r => T r _) ?_ ?_ nb 0 F s0 (by omega) (by omega) ⟨frs_refl _ _, hX, hfe, ht, fun b j hb hj h => by unfold BEF at h; omega⟩
  · intro n B t hB hI next
    show T (b_Plan_turnToFirst_2 F (l_Plan_turnToFirst_2 F (fun s1 => some s1) n) (fun s1 => some s1) t B) _
    unfold b_Plan_turnToFirst_2
    refine T_no (by rw [(hI.1 11 1 rfl).trans d5, wnat (by omega), wnat (by omega)]; omega) ?_
    exact turn_12 hP hA hB (fun t2 h2 => next t2 h2) hI hF
  · intro n t hI
    obtain ⟨i1, i2, i3, i4, i5⟩ := hI
    show T (b_Plan_turnToFirst_2 F (l_Plan_turnToFirst_2 F (fun s1 => some s1) n) (fun s1 => some s1) t nb) _
    unfold b_Plan_turnToFirst_2
    exact T_yes (by rw [(i1 11 1 rfl).trans d5, wnat (by omega)]; omega) (T_some ⟨i1, i2, i3, i4, fun b j hb hj => i5 b j hb hj (by unfold BEF; omega)⟩)
def XKH (c j : Nat) : Bool := XKG c j || (c == 11 && (j == 9 || j == 10 || j == 4))
theorem hold_eq {F nb nj L A : Nat} {mo : Nat → Nat} {may : Pl} {s0 : St} (hP : XP nb nj L mo may s0) (hA : MAXP nb nj may L mo A) (hX : XC nb nj s0) (hfe : FE nb nj may NOB L mo (pX nb nj s0)) (ht : tot nb nj (pX nb nj s0) = A) (hF : 300 ≤ F) : T (f_Plan_findHolding F s0) (fun t => frs XKH s0 t ∧ ∃ H, HOLDP nb nj may (pX nb nj s0) L H ∧ ∀ b, b < nb → bt (t 11 4) b = H b) := by
  obtain ⟨d1, d2, d3, d4, d5, d6, d7, d8, d9⟩ := id hP
  unfold f_Plan_findHolding
  obtain ⟨s2, hs2⟩ : ∃ s2, s2 = put (put s0 11 9 0) 11 10 0 := ⟨_, rfl⟩
  show T ((f_Plan_reachRoom F (put (put s0 11 9 0) 11 10 0)).bind fun q3 => let s4 := put q3.2 11 4 (q3.2 11 11); some s4) _
  rw [← hs2]
  have f2 : frs XKT s0 s2 := by rw [hs2]; exact frs_put (frs_put (frs_refl _ _) rfl) rfl
  have f2h : frs XKH s0 s2 := by rw [hs2]; exact frs_put (frs_put (frs_refl _ _) rfl) rfl
  have e9 : s2 11 9 = ((0 : Nat) : Int) := by rw [hs2, put_j (show (9 : Nat) ≠ 10 by decide), put_eq]; rfl
  have e10 : s2 11 10 = ((0 : Nat) : Int) := by rw [hs2, put_eq]; rfl
  have e14 : ∀ b, s2 14 b = s0 14 b := fun b => by rw [hs2, put_c (show (14 : Nat) ≠ 11 by decide), put_c (show (14 : Nat) ≠ 11 by decide)]
  have e15 : ∀ b, s2 15 b = s0 15 b := fun b => by rw [hs2, put_c (show (15 : Nat) ≠ 11 by decide), put_c (show (15 : Nat) ≠ 11 by decide)]
  clear hs2
  have c2 := XC_T hX e14 e15
  have rm := room_eq (F := F) (XP_T hP f2) c2.1 e9 e10 (by omega) (by omega) (fun b j hb hj hp => by rw [c2.2] at hp; exact FE_may hfe hb hj hp) (fun j hj => by rw [c2.2]; exact hfe.2.2 j hj) (by omega)
  rw [frX_all, c2.2] at rm
  refine T_bind (T_mono rm (fun r hr => T_some ?_))
  obtain ⟨v, t⟩ := r
  obtain ⟨g1, sz, g2, g3⟩ := hr
  have g1 : frs XKG s2 t := g1
  have ct := XC_fr c2.1 g1
  have g2 : BF nb nj may (pX nb nj s0) (rtX nj L (pX nb nj s0)) (XLB nb t) (XLJ nj t) (t 18) (t 17) (xq t) sz := g2
  rcases g3 with ⟨e1, e2, e3⟩ | ⟨last, e1, e2, e3, e4⟩
  · have e2 : CL nb nj may mo (pX nb nj s0) (XLB nb t) (XLJ nj t) := e2
    have e3 : ∀ b, b < nb → rtX nj L (pX nb nj s0) b → XLB nb t b = true := e3
    show frs XKH s0 (put t 11 4 (t 11 11)) ∧ _
    refine ⟨frs_put (frs_trans f2h (frs_sub g1 (fun c j e => by unfold XKH; rw [e]; rfl))) rfl, XLB nb t, ⟨e3, fun b c j hb hc hj h1 h2 h3 h4 => ?_, fun X x1 x2 b hb hh => ?_⟩, fun b hb => ?_⟩
    · exact e2.2.1 c j hc hj (e2.1 b j hb hj h1 h2 h3) h4 (FE_may hfe hc hj h4)
    · have key : ∀ i, i < sz → X (xq t i) = true := by
        intro i
        induction i using Nat.strongRecOn with
        | ind i ih =>
          intro hi
          have hq := (g2.1 i hi).1
          rcases g2.2.2.2.2 i hi with ⟨_, z⟩ | ⟨j, z1, z2, z3, z4, i2, z5, z6⟩
          · exact x1 _ hq z
          · obtain ⟨y0, i3, y1, y2, y3, y4⟩ := g2.2.2.2.1 j z2
            have e32 : i3 = i2 := g2.2.2.1 i3 i2 y1 (by omega) (by rw [y2] at z6; omega)
            rw [e32] at y1 y2 y3 y4
            exact x2 (xq t i2) (xq t i) j (g2.1 i2 y1).1 hq y0 (ih i2 z5 y1) y3 y4 z3
      obtain ⟨i, y1, y2⟩ := g2.2.1 b hh
      rw [← y2]
      exact key i y1
    · show bt ((put t 11 4 (t 11 11)) 11 4) b = XLB nb t b
      rw [put_eq]
      unfold XLB
      simp [hb]
  · exfalso
    obtain ⟨z0, i, z1, z2, z3, z4⟩ := g2.2.2.2.1 last e3
    have hle := BF_le g2
    obtain ⟨r, hr, h1, h2, h3, root, h4, h5, h6⟩ := look_loop (F := F) (L := L) (last := last) (t0 := t) d1 d2 g2 i F t last 0 (by omega) z1 e2 z2 z3 z4 ct.1 (by rw [ct.2, c2.2]; exact WK_0) (frs_refl _ _) ⟨fun _ => last, fun _ _ => e2, fun t1 t2 h1 h2 => by omega, rfl, fun t1 h => absurd h (Nat.not_lt_zero t1)⟩
    have hf2 := AR_FE h6 hfe h5 e4
    have h7 := AR_tot h6 h4
    have h8 := hA.2 _ hf2
    omega
theorem lack_eq {F nb nj L : Nat} {mo : Nat → Nat} {may : Pl} {s : St} (hP : XP nb nj L mo may s) (hX : XC nb nj s) (hF : 60 ≤ F) : f_Plan_lackInAll F s = some ((L : Int) * nb - (tot nb nj (pX nb nj s) : Nat), s) := by
  obtain ⟨d1, d2, d3, d4, d5, d6, d7, d8, d9⟩ := id hP
  unfold f_Plan_lackInAll
  refine loopG (l := fun n (v : Int) x => l_Plan_lackInAll_4 F (fun s1 x1_2 => some (x1_2, s1)) n s v (x : Nat)) (N := nb) (I := fun b v => v = (L : Int) * b - (fb_sm (rowc nj (pX nb nj s)) b : Nat)) (G := fun r => r = some ((L : Int) * nb - (tot nb nj (pX nb nj s) : Nat), s)) ?_ ?_ nb 0 F 0 (by omega) (by omega) (by simp [fb_sm])
  · intro n b v hb hI next
    show b_Plan_lackInAll_4 F (l_Plan_lackInAll_4 F _ n) _ s v b = _
    unfold b_Plan_lackInAll_4
    rw [if_neg (show ¬ w32 (s 11 1) ≤ w32 (b : Int) by rw [d5, wnat (by omega), wnat (by omega)]; omega), gd_yes (inbN (show b < 24 by omega) (by decide)), ix_nat (by omega), bitCount_eq]
    refine next _ ?_
    rw [row_bits hX d2 hb, d7, hI, fb_sm_succ, show ((b + 1 : Nat) : Int) = (b : Int) + 1 by omega, Int.mul_add, Int.mul_one]
    omega
  · intro n v hI
    show b_Plan_lackInAll_4 F (l_Plan_lackInAll_4 F _ n) _ s v nb = _
    unfold b_Plan_lackInAll_4
    rw [if_pos (by rw [d5, wnat (by omega)]; omega), hI]
    rfl
