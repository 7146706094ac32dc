/-- what a growing leaves: nothing found and a closed set, or one look more -/
def GRP (nb nj : Nat) (mo : Nat → Nat) (fr : Pl) (b0 : Nat) (s0 : St) (q : Int × St) : Prop := frs KF s0 q.2 ∧ N01 nb nj q.2 ∧ ((q.1 = 0 ∧ pM q.2 = pM s0 ∧ (∀ i, q.2 15 i = s0 15 i) ∧ (∀ i, q.2 16 i = s0 16 i) ∧ ∃ VB VJ, CL nb nj fr mo (pM s0) VB VJ ∧ VB b0 = true) ∨ (q.1 = 1 ∧ ∃ last, last < nj ∧ colc nb (pM s0) last < mo last ∧ AR nb nj fr (pM s0) (pM q.2) last b0 ∧ (∀ i, q.2 16 i = s0 16 i + if i = last then 1 else 0) ∧ (∀ i, q.2 15 i = s0 15 i + if i = b0 then 1 else 0) ∧ ∀ VB VJ, CL nb nj fr mo (pM s0) VB VJ → AD (pM s0) (pM q.2) VB VJ))
theorem grows_87 {F nb nj L : Nat} {mo : Nat → Nat} {may : Pl} {fx : Nat → Nat → Int} {b0 : Nat} {s0 : St} (hD : PD nb nj L mo may fx s0) (hN : N01 nb nj s0) (hb0 : b0 < nb) (hload : ∀ j, j < nj → s0 16 j = colc nb (pM s0) j ∧ colc nb (pM s0) j ≤ mo j) {k : Nat} {kk : St → Int → Int → Int → Option (Int × St)} (hk : ∀ s sz2, GI nb nj mo (frP may fx) (pM s0) b0 s0 sz2 (k + 1) 12 0 s → T (kk s b0 (sz2 : Nat) k) (GRP nb nj mo (frP may fx) b0 s0)) {s : St} {sz : Nat} (hG : GI nb nj mo (frP may fx) (pM s0) b0 s0 sz k 12 0 s) (hks : k < sz) (hF : 60 ≤ F) : T (l_M_grows_87 F kk F s b0 (sz : Nat) k (qs s k : Nat) 0) (GRP nb nj mo (frP may fx) b0 s0) := by
  obtain ⟨d1, d2, d3, d4, d5, d6, d7, d8, d9, d10, d11⟩ := id hD
  obtain ⟨b, hb⟩ : ∃ b, b = qs s k := ⟨_, rfl⟩
  rw [← hb]
  refine loopG (l := fun n (a : St × Nat) x => l_M_grows_87 F kk n a.1 b0 (a.2 : Nat) k (b : Nat) (x : Nat)) (N := nj) (I := fun j a => GI nb nj mo (frP may fx) (pM s0) b0 s0 a.2 k 12 0 a.1 ∧ k < a.2 ∧ qs a.1 k = b ∧ ∀ j2, j2 < j → frP may fx b j2 = true → pM s0 b j2 = false → LJs nj a.1 j2 = true) (G := fun r => T r (GRP nb nj mo (frP may fx) b0 s0)) ?_ ?_ nj 0 F (s, sz) (by omega) (by omega) ⟨hG, hks, hb.symm, fun j2 h => absurd h (Nat.not_lt_zero j2)⟩
  · intro n j a hj hI next
    obtain ⟨s, sz⟩ := a
    obtain ⟨hG, i1, i2, i3⟩ := hI
    have hG0 : GI nb nj mo (frP may fx) (pM s0) b0 s0 sz k 12 0 s := hG
    obtain ⟨g1, g2, g3, g4, g5, g6, g7, g8⟩ := hG
    have g1 : frs KG s0 s := g1
    have i1 : k < sz := i1
    have i2 : qs s k = b := i2
    have i3 : ∀ j2, j2 < j → frP may fx b j2 = true → pM s0 b j2 = false → LJs nj s j2 = true := i3
    have hbn : b < nb := by rw [← i2]; exact (g2.1 k i1).1
    have hDs := PD_fr hD (KG_KF g1)
    have ij : inb (j : Int) 12 := inbN (show j < 12 by omega) (by decide)
    have ixj : ix (j : Int) = j := ix_nat (by omega)
    have s10 : ∀ i, s 10 i = s0 10 i := fun i => g1 10 i rfl
    have pe : pM s = pM s0 := pM_cong s10
    have hNs : N01 nb nj s := fun b j h1 h2 => by rw [s10]; exact hN b j h1 h2
    have w12 : w32 (s 12 j) = s 12 j := by have z : s 12 j = 0 ∨ s 12 j = 1 := g5 j (by omega); exact wid (by omega) (by omega)
    have skip : (LJs nj s j = true ∨ frP may fx b j = false ∨ pM s0 b j = true) → T (l_M_grows_87 F kk n s b0 (sz : Nat) k (b : Nat) ((j : Int) + 1)) (GRP nb nj mo (frP may fx) b0 s0) := by
      intro hn
      refine next (s, sz) ⟨hG0, i1, i2, fun j2 h1 h2 h3 => ?_⟩
      by_cases e : j2 = j
      · rw [e] at h2 h3 ⊢
        rcases hn with q | q | q
        · exact q
        · rw [q] at h2; cases h2
        · rw [q] at h3; cases h3
      · exact i3 j2 (by omega) h2 h3
    show T (b_M_grows_87 F (l_M_grows_87 F kk n) kk s b0 (sz : Nat) k (b : Nat) j) _
    unfold b_M_grows_87
    refine T_no (by rw [(g1 0 5 rfl).trans d6, wnat (by omega), wnat (by omega)]; omega) (T_gd ij ?_)
    rw [ixj]
    refine T_if (fun c1 => ?_) (fun c1 => skip (.inl ?_))
    · rw [w12] at c1
      have nl : LJs nj s j = false := by unfold LJs; simp [c1]
      refine T_bind (T_eq (isFree_eq hDs hbn hj) (T_if (fun c3 => skip (.inr (.inl ?_))) (fun c3 => ?_)))
      · have := b01_0.mp c3
        simpa using this
      · have fc : frP may fx b j = true := Decidable.not_not.mp (fun q => c3 (b01_0.mpr q))
        refine T_bind (T_eq at_eq (T_gd (inbN (show 12 * b + j < 288 by omega) (by decide)) ?_))
        refine T_if (fun c2 => ?_) (fun c2 => skip (.inr (.inr ?_)))
        · have c2 : w32 (s 10 (ix ((12 * b + j : Nat) : Int))) = 0 := c2
          rw [ix_nat (by omega)] at c2
          have pc : pM s0 b j = false := by rw [← pe]; exact (N01_w hNs d2 hbn hj).mp c2
          refine T_gd ij (T_gd ij (T_gd ij (T_gd ij ?_)))
          show T (if w32 (s 7 j) ≤ w32 (s 16 j) then l_M_grows_190 F (fun s20 x1_21 x2_22 x3_23 x4_24 x5_25 => l_M_grows_87 F kk n s20 x1_21 x2_22 x3_23 x4_24 (x5_25 + 1)) F (put (put s 12 j (nz 1)) 17 j b) b0 (sz : Nat) k (b : Nat) j 0 else (f_M_turns F (put (put s 12 j (nz 1)) 17 j b) j).bind fun q16 => gd (inb (b0 : Int) 24) (gd (inb (b0 : Int) 24) (let s19 := put q16 15 (ix (b0 : Int)) ((q16 15 (ix (b0 : Int))) + 1); some (1, s19)))) _
          rw [nz_1]
          have hLJ : ∀ x, LJs nj (put (put s 12 j 1) 17 j b) x = (decide (x = j) || LJs nj s x) := fun x => LJs_put (by omega) x
          have hby : ∀ x, (put (put s 12 j 1) 17 j b) 17 x = if x = j then ((qs s k : Nat) : Int) else s 17 x := by
            intro x
            rw [put_at, i2]
            rfl
          have hB2 : BF nb nj (frP may fx) (pM s0) (fun b => b = b0) (LBs nb (put (put s 12 j 1) 17 j b)) (LJs nj (put (put s 12 j 1) 17 j b)) ((put (put s 12 j 1) 17 j b) 17) ((put (put s 12 j 1) 17 j b) 19) (qs (put (put s 12 j 1) 17 j b)) sz := BF_judge (k := k) g2 i1 hj nl (show frP may fx (qs s k) j = true by rw [i2]; exact fc) (show pM s0 (qs s k) j = false by rw [i2]; exact pc) hLJ hby
          have e7 : s 7 j = (mo j : Int) := (g1 7 j rfl).trans (d8 j hj).1
          have e16 : s 16 j = (colc nb (pM s0) j : Int) := (g1 16 j rfl).trans (hload j hj).1
          have hle := (hload j hj).2
          have hmo := (d8 j hj).2.1
          rw [e7, e16, wnat (show mo j < 2147483648 by omega), wnat (show colc nb (pM s0) j < 2147483648 by omega)]
          refine T_if (fun c4 => ?_) (fun c4 => ?_)
          · have hfull : colc nb (pM s0) j = mo j := by omega
            refine grows_190 (b0 := b0) hD hN (k := k) hj (fun s2 sz2 hG2 hl2 hm => ?_) (sA := put (put s 12 j 1) 17 j b) (zA := sz) ⟨frs_put (frs_put g1 rfl) rfl, hB2, g3, g4, fun x hx => ?_, fun x hx => ?_, fun i hi j2 hj2 h1 h2 => ?_, g8⟩ (by rw [hLJ]; simp) (by omega)
            · obtain ⟨m1, m2, m3⟩ := hm
              refine next (s2, sz2) ⟨hG2, by show k < sz2; omega, ?_, fun j2 h1 h2 h3 => ?_⟩
              · show qs s2 k = b
                rw [m2 k i1]
                exact i2
              · show LJs nj s2 j2 = true
                rw [m3, hLJ]
                by_cases e : j2 = j
                · simp [e]
                · rw [i3 j2 (by omega) h2 h3]; simp
            · show (put s 12 j 1) 12 x = 0 ∨ (put s 12 j 1) 12 x = 1
              rw [put_at]
              by_cases e : x = j
              · rw [if_pos e]; exact .inr rfl
              · rw [if_neg e]; exact g5 x hx
            · rw [hLJ] at hx
              by_cases e : x = j
              · rw [e]
                exact ⟨hfull, fun c h1 h2 => by have := h2 rfl; omega⟩
              · simp only [e, decide_false, Bool.false_or] at hx
                refine ⟨(g6 x hx).1, fun c h1 h2 h3 h4 => (g6 x hx).2 c h1 (fun e2 => ?_) h3 h4⟩
                rw [e2] at hx
                unfold LJs at hx
                simp at hx
                omega
            · rw [hLJ, g7 i hi j2 hj2 h1 h2]; simp
          · unfold f_M_turns
            refine T_bind (T_gd ij (T_gd ij ?_))
            show T (l_M_turns_12 F (fun s4 => some s4) F (put (put (put s 12 j 1) 17 j b) 16 (ix (j : Int)) ((put (put s 12 j 1) 17 j b) 16 (ix (j : Int)) + 1)) j) _
            rw [ixj]
            have hszn := BF_le hB2
            have tl := turns_loop (F := F) (mo := mo) (last := j) (t0 := put (put (put s 12 j 1) 17 j b) 16 j ((put (put s 12 j 1) 17 j b) 16 j + 1)) d1 d2 hB2 k F (put (put (put s 12 j 1) 17 j b) 16 j ((put (put s 12 j 1) 17 j b) 16 j + 1)) j (by omega) i1 hj (by show (put (put s 12 j 1) 17 j b) 17 j = _; rw [hby, if_pos rfl]; rfl) (by show frP may fx (qs s k) j = true; rw [i2]; exact fc) (by show pM s0 (qs s k) j = false; rw [i2]; exact pc) (by rw [show pM (put (put (put s 12 j 1) 17 j b) 16 j ((put (put s 12 j 1) 17 j b) 16 j + 1)) = pM s0 from pM_cong s10]; exact WK_0) (fun b2 j2 h1 h2 => hNs b2 j2 h1 h2) (frs_refl _ _) (fun VB VJ hc hl => ⟨hl, fun b2 k2 _ => by rw [show pM (put (put (put s 12 j 1) 17 j b) 16 j ((put (put s 12 j 1) 17 j b) 16 j + 1)) = pM s0 from pM_cong s10], fun b2 k2 _ => by rw [show pM (put (put (put s 12 j 1) 17 j b) 16 j ((put (put s 12 j 1) 17 j b) 16 j + 1)) = pM s0 from pM_cong s10]⟩)
            refine T_mono tl (fun s2 h2 => ?_)
            obtain ⟨f2, n2, root, r1, r2, r3, r4⟩ := h2
            have r2 : root = b0 := r2
            have ib : inb (b0 : Int) 24 := inbN (show b0 < 24 by omega) (by decide)
            refine T_gd ib (T_gd ib (T_some ?_))
            show GRP nb nj mo (frP may fx) b0 s0 (1, put s2 15 (ix (b0 : Int)) (s2 15 (ix (b0 : Int)) + 1))
            rw [ix_nat (show b0 < 2147483648 by omega)]
            have pp : pM (put s2 15 b0 (s2 15 b0 + 1)) = pM s2 := pM_cong (fun i => rfl)
            refine ⟨?_, n2, .inr ⟨rfl, j, hj, by omega, ?_, fun i => ?_, fun i => ?_, fun VB VJ hc => ?_⟩⟩
            · intro c i hc
              have e1 : c ≠ 15 := fun e => by rw [e] at hc; cases hc
              have e2 : c ≠ 16 := fun e => by rw [e] at hc; cases hc
              have e3 : c ≠ 17 := fun e => by rw [e] at hc; cases hc
              have e4 : c ≠ 12 := fun e => by rw [e] at hc; cases hc
              have e5 : K10 c i = false := by
                unfold K10
                simp only [beq_eq_false_iff_ne, ne_eq]
                exact fun e => by rw [e] at hc; cases hc
              show (put s2 15 b0 (s2 15 b0 + 1)) c i = s0 c i
              rw [put_c e1, f2 c i e5, put_c e2, put_c e3, put_c e4]
              exact KG_KF g1 c i hc
            · rw [pp, ← r2]; exact r3
            · show s2 16 i = s0 16 i + _
              rw [f2 16 i rfl, put_at]
              by_cases e : i = j
              · rw [if_pos e, if_pos e, e]
                show s 16 j + 1 = s0 16 j + 1
                rw [g1 16 j rfl]
              · rw [if_neg e, if_neg e, Int.add_zero]
                exact g1 16 i rfl
            · show (put s2 15 b0 (s2 15 b0 + 1)) 15 i = s0 15 i + _
              have e15 : ∀ x, s2 15 x = s0 15 x := fun x => (f2 15 x rfl).trans (g1 15 x rfl)
              rw [put_at]
              by_cases e : i = b0
              · rw [if_pos e, if_pos e, e, e15]
              · rw [if_neg e, if_neg e, Int.add_zero, e15]
            · rw [pp]
              refine r4 VB VJ hc ?_
              cases e : VJ j with
              | false => rfl
              | true => have := hc.2.2 j hj e; omega
        · have c2 : ¬ w32 (s 10 (ix ((12 * b + j : Nat) : Int))) = 0 := c2
          rw [ix_nat (by omega)] at c2
          rw [← pe]
          cases e : pM s b j with
          | true => rfl
          | false => exact absurd ((N01_w hNs d2 hbn hj).mpr e) c2
    · unfold LJs
      rw [w12] at c1
      simp [c1]
      omega
  · intro n a hI
    obtain ⟨s, sz⟩ := a
    obtain ⟨⟨g1, g2, g3, g4, g5, g6, g7, g8⟩, i1, i2, i3⟩ := hI
    have g1 : frs KG s0 s := g1
    show T (b_M_grows_87 F (l_M_grows_87 F kk n) kk s b0 (sz : Nat) k (b : Nat) nj) _
    unfold b_M_grows_87
    refine T_yes (by rw [(g1 0 5 rfl).trans d6, wnat (by omega)]; omega) (hk s sz ⟨g1, g2, g3, g4, g5, g6, fun i hi j hj h1 h2 => ?_, i1⟩)
    by_cases e : i = k
    · rw [e] at h1 h2
      have i2 : qs s k = b := i2
      rw [i2] at h1 h2
      exact i3 j hj h1 h2
    · exact g7 i (by omega) j hj h1 h2
