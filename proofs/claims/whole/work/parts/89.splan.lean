def XK34 (c j : Nat) : Bool := c == 13 || c == 14
def XK25 (c j : Nat) : Bool := c == 12 || c == 15
def XKB (c j : Nat) : Bool := c == 12 || c == 13 || c == 14 || c == 15 || c == 11
theorem begin_eq {F nb nj L : Nat} {mo : Nat → Nat} {sx sm : St} (hB : IB sx sm) (hJ : IJ sx sm) (hnb : sm 0 4 = nb) (hnj : sm 0 5 = nj) (hL : sx 0 12 = L) (hL2 : 1 ≤ L ∧ L ≤ 4) (hmo : ∀ j, j < nj → sm 7 j = mo j) (hF : 60 ≤ F) : T (f_Plan_begin F sx (sx 0 12)) (fun t => frs XKB sx t ∧ XP nb nj L mo (fun b j => mayB sm j b) t ∧ XC nb nj t ∧ (∀ b j, b < nb → j < nj → pX nb nj t b j = false) ∧ t 11 9 = 0 ∧ t 11 10 = 0 ∧ t 11 0 = 1) := by
  have b0 := hB.1
  have j0 := hJ.1
  unfold f_Plan_begin
  obtain ⟨s6, hs6⟩ : ∃ s6, s6 = put (put (put (put (put (put sx 11 0 1) 11 1 (sx 1 0)) 11 2 (sx 7 0)) 11 3 (sx 0 12)) 11 9 0) 11 10 0 := ⟨_, rfl⟩
  show T (l_Plan_begin_39 F (fun s7 => l_Plan_begin_79 F (fun s8 => some s8) F s7 0) F (put (put (put (put (put (put sx 11 0 1) 11 1 (sx 1 0)) 11 2 (sx 7 0)) 11 3 (sx 0 12)) 11 9 0) 11 10 0) 0) _
  rw [← hs6]
  have f6 : frs XKB sx s6 := by rw [hs6]; exact frs_put (frs_put (frs_put (frs_put (frs_put (frs_put (frs_refl _ _) rfl) rfl) rfl) rfl) rfl) rfl
  have a0 : s6 11 0 = 1 := by rw [hs6]; rfl
  have a1 : s6 11 1 = nb := by rw [hs6]; show sx 1 0 = _; rw [b0.1, hnb]
  have a2 : s6 11 2 = nj := by rw [hs6]; show sx 7 0 = _; rw [j0.1, hnj]
  have a3 : s6 11 3 = L := by rw [hs6]; exact hL
  have a9 : s6 11 9 = 0 := by rw [hs6]; rfl
  have a10 : s6 11 10 = 0 := by rw [hs6]; rfl
  clear hs6
  have gx : ∀ (t : St), frs XKB sx t → IB t sm ∧ IJ t sm := by
    intro t ft
    refine ⟨IB_cong (fun c j q => ft c j ?_) (fun _ _ _ => rfl) hB, IJ_cong (fun c j q => ft c j ?_) (fun _ _ _ => rfl) hJ⟩
    · cases e : XKB c j with
      | false => rfl
      | true =>
        unfold XKB at e
        simp only [Bool.or_eq_true, beq_iff_eq] at e
        rcases e with (((e | e) | e) | e) | e <;> (rw [e] at q; revert q; unfold gX; simp; try (intro h; split at h <;> omega))
    · cases e : XKB c j with
      | false => rfl
      | true =>
        unfold XKB at e
        simp only [Bool.or_eq_true, beq_iff_eq] at e
        rcases e with (((e | e) | e) | e) | e <;> (rw [e] at q; revert q; unfold gX; simp; try (intro h; split at h <;> omega))
  refine loopG (l := fun n (t : St) x => l_Plan_begin_39 F (fun s7 => l_Plan_begin_79 F (fun s8 => some s8) F s7 0) n t (x : Nat)) (N := nb) (I := fun B t => frs XK34 s6 t ∧ ∀ b, b < B → t 14 b = 0 ∧ ∀ k, k < 32 → bt (t 13 b) k = (decide (k < nj) && mayB sm k b)) (G := fun r => T r _) ?_ ?_ nb 0 F s6 (by omega) (by omega) ⟨frs_refl _ _, fun b h => absurd h (Nat.not_lt_zero b)⟩
  · intro n B t hBn hI next
    obtain ⟨i1, i2⟩ := hI
    have ft : frs XKB sx t := frs_trans f6 (frs_sub i1 (fun c j e => by unfold XK34 at e; unfold XKB; simp only [Bool.or_eq_true] at e ⊢; rcases e with e | e <;> simp [e]))
    show T (b_Plan_begin_39 F (l_Plan_begin_39 F (fun s7 => l_Plan_begin_79 F (fun s8 => some s8) F s7 0) n) (fun s7 => l_Plan_begin_79 F (fun s8 => some s8) F s7 0) t B) _
    unfold b_Plan_begin_39
    obtain ⟨v, v1, v2⟩ := allowedX (F := F) (b := B) (by omega) (gx t ft).1 (gx t ft).2 (by omega)
    have iB : inb (B : Int) 24 := inbN (show B < 24 by omega) (by decide)
    refine T_no (by rw [(i1 11 1 rfl).trans a1, wnat (by omega), wnat (by omega)]; omega) (T_bind (T_eq v1 (T_gd iB (T_gd iB ?_))))
    show T (l_Plan_begin_39 F (fun s7 => l_Plan_begin_79 F (fun s8 => some s8) F s7 0) n (put (put t 13 (ix (B : Int)) v) 14 (ix (B : Int)) 0) ((B : Int) + 1)) _
    rw [ix_nat (by omega)]
    refine next _ ⟨frs_put (frs_put i1 rfl) rfl, fun b hb => ?_⟩
    rw [put_at, put_c (show (13 : Nat) ≠ 14 by decide), put_at]
    by_cases e : b = B
    · rw [if_pos e, if_pos e, e]
      refine ⟨rfl, fun k hk => ?_⟩
      rw [v2 k hk]
      have : decide ((k : Int) < sm 0 5) = decide (k < nj) := decide_eq_decide.mpr (by omega)
      rw [this]
    · rw [if_neg e, if_neg e, put_c (show (14 : Nat) ≠ 13 by decide)]
      exact i2 b (by omega)
  · intro n t hI
    obtain ⟨i1, i2⟩ := hI
    show T (b_Plan_begin_39 F (l_Plan_begin_39 F (fun s7 => l_Plan_begin_79 F (fun s8 => some s8) F s7 0) n) (fun s7 => l_Plan_begin_79 F (fun s8 => some s8) F s7 0) t nb) _
    unfold b_Plan_begin_39
    refine T_yes (by rw [(i1 11 1 rfl).trans a1, wnat (by omega)]; omega) ?_
    refine loopG (l := fun n (u : St) x => l_Plan_begin_79 F (fun s8 => some s8) n u (x : Nat)) (N := nj) (I := fun J u => frs XK25 t u ∧ ∀ j, j < J → u 12 j = mo j ∧ u 15 j = 0) (G := fun r => T r _) ?_ ?_ nj 0 F t (by omega) (by omega) ⟨frs_refl _ _, fun b h => absurd h (Nat.not_lt_zero b)⟩
    · intro n J u hJn hI next
      obtain ⟨k1, k2⟩ := hI
      show T (b_Plan_begin_79 F (l_Plan_begin_79 F (fun s8 => some s8) n) (fun s8 => some s8) u J) _
      unfold b_Plan_begin_79
      have iJ : inb (J : Int) 12 := inbN (show J < 12 by omega) (by decide)
      refine T_no (by rw [(k1 11 2 rfl).trans ((i1 11 2 rfl).trans a2), wnat (by omega), wnat (by omega)]; omega) (T_gd iJ (T_gd iJ (T_gd iJ ?_)))
      show T (l_Plan_begin_79 F (fun s8 => some s8) n (put (put u 12 (ix (J : Int)) (u 10 (ix (J : Int)))) 15 (ix (J : Int)) 0) ((J : Int) + 1)) _
      rw [ix_nat (by omega)]
      refine next _ ⟨frs_put (frs_put k1 rfl) rfl, fun j hj => ?_⟩
      rw [put_c (show (12 : Nat) ≠ 15 by decide), put_at, put_at, put_c (show (15 : Nat) ≠ 12 by decide)]
      by_cases e : j = J
      · rw [if_pos e, if_pos e, e]
        refine ⟨?_, rfl⟩
        have e10 : u 10 J = sx 10 J := (k1 10 J rfl).trans ((i1 10 J rfl).trans (f6 10 J rfl))
        rw [e10, (hJ.2 J (by omega)).2.2.1]
        exact hmo J hJn
      · rw [if_neg e, if_neg e]; exact k2 j (by omega)
    · intro n u hI
      obtain ⟨k1, k2⟩ := hI
      show T (b_Plan_begin_79 F (l_Plan_begin_79 F (fun s8 => some s8) n) (fun s8 => some s8) u nj) _
      unfold b_Plan_begin_79
      have z14 : ∀ b, b < nb → u 14 b = 0 := fun b hb => by rw [k1 14 b rfl]; exact (i2 b hb).1
      refine T_yes (by rw [(k1 11 2 rfl).trans ((i1 11 2 rfl).trans a2), wnat (by omega)]; omega) (T_some ⟨?_, ⟨by omega, by omega, hL2.1, hL2.2, ?_, ?_, ?_, fun j hj => ⟨(k2 j hj).1, ?_⟩, fun b hb k hk => ?_⟩, ⟨fun b hb k hk q => ?_, fun j hj k hk q => ?_, fun b j hb hj => ?_⟩, fun b j hb hj => ?_, ?_, ?_, ?_⟩)
      · refine frs_trans (frs_trans f6 (frs_sub i1 (fun c j e => ?_))) (frs_sub k1 (fun c j e => ?_))
        · unfold XK34 at e; unfold XKB; simp only [Bool.or_eq_true] at e ⊢; rcases e with e | e <;> simp [e]
        · unfold XK25 at e; unfold XKB; simp only [Bool.or_eq_true] at e ⊢; rcases e with e | e <;> simp [e]
      · rw [k1 11 1 rfl, i1 11 1 rfl]; exact a1
      · rw [k1 11 2 rfl, i1 11 2 rfl]; exact a2
      · rw [k1 11 3 rfl, i1 11 3 rfl]; exact a3
      · have z := (hJ.2 j (by omega)).2.2.2
        have := hmo j hj
        omega
      · rw [k1 13 b rfl]; exact (i2 b hb).2 k hk
      · rw [z14 b hb, bt_0] at q; cases q
      · rw [(k2 j hj).2, bt_0] at q; cases q
      · rw [z14 b hb, (k2 j hj).2, bt_0, bt_0]
      · rw [pX_in hb hj, z14 b hb, bt_0]
      · rw [k1 11 9 rfl, i1 11 9 rfl]; exact a9
      · rw [k1 11 10 rfl, i1 11 10 rfl]; exact a10
      · rw [k1 11 0 rfl, i1 11 0 rfl]; exact a0
theorem b01_b2i (x : Bool) : b01 (x = true) = b2i x := by
  cases x <;> rfl
theorem s_plan {F : Nat} (hF : 300 ≤ F) : st_plan F (INV F) := by
  intro sx sm h
  have h0 := h
  obtain ⟨hB, hJ, hL, hS, hM, hFr, hT, hR, hH, hP⟩ := h
  have b0 := hB.1
  have j0 := hJ.1
  obtain ⟨l1, l2, l3⟩ := hL
  obtain ⟨nb, hnb⟩ : ∃ n : Nat, sm 0 4 = n := ⟨(sm 0 4).toNat, by omega⟩
  obtain ⟨nj, hnj⟩ : ∃ n : Nat, sm 0 5 = n := ⟨(sm 0 5).toNat, by omega⟩
  obtain ⟨L, hLn⟩ : ∃ n : Nat, sm 0 6 = n := ⟨(sm 0 6).toNat, by omega⟩
  have hmo : ∀ j, j < nj → sm 7 j = ((sm 7 j).toNat : Int) := fun j hj => by have := (hJ.2 j (by omega)).2.2; omega
  -- the reference
  have hPD : ∀ s, frs KP (put (put sm 0 1 0) 0 0 0) s → (∀ b j, b < nb → j < nj → s 14 (12 * b + j) = 0 ∨ s 14 (12 * b + j) = 1 ∨ s 14 (12 * b + j) = 2) → PD nb nj L (fun j => (sm 7 j).toNat) (fun b j => mayB sm j b) (fxS s) s := by
    intro s f h14
    refine ⟨by omega, by omega, by omega, by omega, (f 0 4 rfl).trans hnb, (f 0 5 rfl).trans hnj, (f 0 6 rfl).trans hLn, fun j hj => ?_, fun b hb => ?_, fun b j hb hj => ?_, fun b j hb hj => ⟨rfl, h14 b j hb hj⟩⟩
    · have z := hJ.2 j (by omega)
      rw [f 7 j rfl, f 6 j rfl]
      show sm 7 j = ((sm 7 j).toNat : Int) ∧ (sm 7 j).toNat ≤ 24 ∧ i32 (sm 6 j)
      exact ⟨hmo j hj, by omega, ⟨by omega, by omega⟩⟩
    · have z := hB.2 b (by omega)
      rw [f 3 b rfl]
      show i32 (sm 3 b)
      exact ⟨by omega, by omega⟩
    · unfold mayB
      rw [f 5 j rfl, f 1 b rfl, f 6 j rfl, f 3 b rfl]
      rfl
  obtain ⟨q2, e2, A, R, H, m1, m2, m3, m4, m5, m6, m7, m8, m9, m10, m11⟩ := planM_eq (F := F) (m0 := sm) hPD (by omega) (by omega) hF
  -- the class
  obtain ⟨x1, e3, c1, c2, c3, c4, c5, c6, c7⟩ := begin_eq (F := F) (mo := fun j => (sm 7 j).toNat) hB hJ hnb hnj (show sx 0 12 = L by rw [l1, hLn]) (by omega) hmo (by omega)
  obtain ⟨x2, e4, g1, g2, g3, g4⟩ := give_eq (F := F) c2 c3 c5 c6 c4 hF
  obtain ⟨x3, e5, t1, t2, t3, t4, t5⟩ := turn_eq (F := F) (XP_L c2 g1) g4 g2 g3 rfl hF
  have hP3 := XP_T (XP_L c2 g1) t1
  obtain ⟨x4, e6, u1, H2, u2, u3⟩ := hold_eq (F := F) hP3 g4 t2 t3 t4 hF
  have e14 : ∀ b, x4 14 b = x3 14 b := fun b => u1 14 b rfl
  have e15 : ∀ b, x4 15 b = x3 15 b := fun b => u1 15 b rfl
  have ct := XC_T t2 e14 e15
  have hP4 : XP nb nj L (fun j => (sm 7 j).toNat) (fun b j => mayB sm j b) x4 := by
    obtain ⟨d1, d2, d3, d4, d5, d6, d7, d8, d9⟩ := hP3
    refine ⟨d1, d2, d3, d4, (u1 11 1 rfl).trans d5, (u1 11 2 rfl).trans d6, (u1 11 3 rfl).trans d7, fun j hj => ?_, fun b hb => ?_⟩
    · rw [u1 12 j rfl]; exact d8 j hj
    · rw [u1 13 b rfl]; exact d9 b hb
  have e7 := lack_eq (F := F) hP4 ct.1 (by omega)
  -- they agree
  have eA : tot nb nj (pX nb nj x2) = A := MAXP_uniq g4 m1
  rw [eA] at t4 t5
  have eR : ∀ b j, b < nb → j < nj → pX nb nj x3 b j = R b j := fun b j hb hj => LEX_uniq t5 m2 (nj * b + j + 1) b j (by omega) hb hj
  have eH : ∀ b, b < nb → H2 b = H b := fun b hb => HOLD_uniq (HOLD_cong (fun b j hb hj => (eR b j hb hj).symm) u2) m3 hb
  refine mk2 (T_bind (T_eq e3 (T_bind (T_eq e4 (T_bind (T_eq e5 (T_bind (T_eq e6 (T_bind (T_eq e7 (T_bind (T_some (T_some (T_eq e2 ⟨?_, ?_⟩))))))))))))))
  · show w32 ((L : Int) * nb - (tot nb nj (pX nb nj x4) : Nat)) = w32 q2.1
    rw [m5, ct.2, t4]
  · have X : ∀ c j, gX c j ≠ 0 → gX c j ≠ 10 → gX c j ≠ 4 → (put x4 0 13 0) c j = sx c j := by
      intro c j z1 z2 z3
      have n1 : ¬ (c = 0 ∧ j = 13) := fun e => z3 (by rw [e.1, e.2]; rfl)
      have hc : ∀ k, 11 ≤ k → k ≤ 18 → ¬ c = k := by
        intro k h1 h2 e
        rw [e] at z1 z2
        rcases (show k = 11 ∨ k = 12 ∨ k = 13 ∨ k = 14 ∨ k = 15 ∨ k = 16 ∨ k = 17 ∨ k = 18 by omega) with r | r | r | r | r | r | r | r <;> rw [r] at z1 z2
        · unfold gX at z1 z2
          simp only [show ¬ (11 : Nat) = 0 by decide, show ¬ (11 : Nat) ≤ 6 by decide, show ¬ (11 : Nat) ≤ 10 by decide, if_false, if_true] at z1 z2
          split at z1
          · rename_i hh; rw [if_pos hh] at z2; exact z2 rfl
          · exact z1 rfl
        · exact z1 rfl
        · exact z1 rfl
        · exact z2 rfl
        · exact z1 rfl
        · exact z1 rfl
        · exact z1 rfl
        · exact z1 rfl
      have hh := hc
      show (put x4 0 13 0) c j = sx c j
      rw [show (put x4 0 13 0) c j = x4 c j from if_neg n1, u1 c j ?_, t1 c j ?_, g1 c j ?_, c1 c j ?_]
      · unfold XKB
        simp [hh 11 (by omega) (by omega), hh 12 (by omega) (by omega), hh 13 (by omega) (by omega), hh 14 (by omega) (by omega), hh 15 (by omega) (by omega)]
      · unfold XKL XKG
        simp [hh 11 (by omega) (by omega), hh 16 (by omega) (by omega), hh 17 (by omega) (by omega), hh 18 (by omega) (by omega), hh 14 (by omega) (by omega), hh 15 (by omega) (by omega)]
      · unfold XKT XKL XKG
        simp [hh 11 (by omega) (by omega), hh 16 (by omega) (by omega), hh 17 (by omega) (by omega), hh 18 (by omega) (by omega), hh 14 (by omega) (by omega), hh 15 (by omega) (by omega)]
      · unfold XKH XKG
        simp [hh 11 (by omega) (by omega), hh 16 (by omega) (by omega), hh 17 (by omega) (by omega), hh 18 (by omega) (by omega)]
    have M : ∀ c j, gM c j ≠ 0 → gM c j ≠ 10 → gM c j ≠ 4 → q2.2 c j = sm c j := by
      intro c j z1 z2 z3
      rw [m6 c j ?_]
      · unfold put
        rw [if_neg (fun z => z3 (by rw [z.1, z.2]; rfl)), if_neg (fun z => z1 (by rw [z.1, z.2]; rfl))]
      · cases e : KPM c j with
        | false => rfl
        | true =>
          exfalso
          unfold KPM KP KF at e
          simp only [Bool.or_eq_true, Bool.and_eq_true, beq_iff_eq] at e
          have hz : ∀ k, (k = 10 ∨ k = 12 ∨ k = 13 ∨ k = 15 ∨ k = 16 ∨ k = 17 ∨ k = 18 ∨ k = 19 ∨ k = 14) → ¬ c = k := by
            intro k hk e
            rw [e] at z1
            rcases hk with r | r | r | r | r | r | r | r | r <;> rw [r] at z1 <;> exact z1 rfl
          have hy : ∀ k, (k = 9 ∨ k = 11) → ¬ c = k := by
            intro k hk e
            rw [e] at z2
            rcases hk with r | r <;> rw [r] at z2 <;> exact z2 rfl
          have hw : ∀ k, (k = 15 ∨ k = 16 ∨ k = 17) → ¬ (c = 0 ∧ j = k) := by
            intro k hk e
            rw [e.1, e.2] at z2
            rcases hk with r | r | r <;> rw [r] at z2 <;> exact z2 rfl
          rcases e with (((e | e) | e) | e) | ⟨e, e'⟩
          · rcases e with ((((((e | e) | e) | e) | e) | e) | e) | e <;> exact hz _ (by simp) e
          · exact hz 14 (by simp) e
          · exact hy 9 (by simp) e
          · exact hy 11 (by simp) e
          · rcases e' with (e' | e') | e'
            · exact hw 15 (by simp) ⟨e, e'⟩
            · exact hw 16 (by simp) ⟨e, e'⟩
            · exact hw 17 (by simp) ⟨e, e'⟩
    have y0 : (put x4 0 13 0) 11 0 = 1 := by
      show x4 11 0 = 1
      rw [u1 11 0 rfl, t1 11 0 rfl, g1 11 0 rfl]; exact c7
    have y1 : (put x4 0 13 0) 11 1 = nb := hP4.2.2.2.2.1
    have y2 : (put x4 0 13 0) 11 2 = nj := hP4.2.2.2.2.2.1
    refine ⟨IB_cong (fun c j q => X c j (by omega) (by omega) (by omega)) (fun c j q => M c j (by omega) (by omega) (by omega)) hB, IJ_cong (fun c j q => X c j (by omega) (by omega) (by omega)) (fun c j q => M c j (by omega) (by omega) (by omega)) hJ, IL_cong (fun c j q => X c j (by omega) (by omega) (by omega)) (fun c j q => M c j (by omega) (by omega) (by omega)) ⟨l1, l2, l3⟩, ?_, IM_cong (M _ _ (by decide) (by decide) (by decide)) (M _ _ (by decide) (by decide) (by decide)) (fun c j q => X c j (by omega) (by omega) (by omega)) (fun c j q => M c j (by omega) (by omega) (by omega)) hM, IF_cong (fun c j q => X c j (by omega) (by omega) (by omega)) (fun c j q => M c j (by omega) (by omega) (by omega)) hFr, IT_cong (fun c j q => X c j (by omega) (by omega) (by omega)) (fun c j q => M c j (by omega) (by omega) (by omega)) hT, IR_cong (fun c j q => X c j (by omega) (by omega) (by omega)) (fun c j q => M c j (by omega) (by omega) (by omega)) hR, IH_cong (fun c j q => X c j (by omega) (by omega) (by omega)) (fun c j q => M c j (by omega) (by omega) (by omega)) hH, ?_⟩
    · show (0 : Int) = q2.2 0 0
      rw [m6 0 0 rfl]
      rfl
    · refine ⟨⟨y0.trans m7.symm, .inr m7⟩, fun _ => ⟨⟨y1.trans m8.symm, ?_, ?_⟩, ⟨y2.trans m9.symm, ?_, ?_⟩, fun b hb => ⟨?_, fun j hj => ?_⟩⟩⟩
      · show 0 ≤ q2.2 0 16; rw [m8]; omega
      · show q2.2 0 16 ≤ 24; rw [m8]; omega
      · show 0 ≤ q2.2 0 17; rw [m9]; omega
      · show q2.2 0 17 ≤ 12; rw [m9]; omega
      · have hb : (b : Int) < q2.2 0 16 := hb
        have hb2 : b < nb := by omega
        show andI (shrI (x4 11 4) b) 1 = q2.2 11 b ∧ 0 ≤ q2.2 11 b ∧ q2.2 11 b ≤ 1
        rw [bitat _ (show b < 32 by omega), b01_b2i, u3 b hb2, eH b hb2, m11 b hb2]
        cases H b <;> decide
      · have hb : (b : Int) < q2.2 0 16 := hb
        have hj : (j : Int) < q2.2 0 17 := hj
        have hb2 : b < nb := by omega
        have hj2 : j < nj := by omega
        show andI (shrI (x4 14 b) j) 1 = q2.2 9 (12 * b + j) ∧ 0 ≤ q2.2 9 (12 * b + j) ∧ q2.2 9 (12 * b + j) ≤ 1
        rw [bitat _ (show j < 32 by omega), b01_b2i, e14, ← pX_in (s := x3) hb2 hj2, eR b j hb2 hj2, m10 b j hb2 hj2]
        cases R b j <;> decide
