theorem FE_none {nb nj L : Nat} {may : Pl} {mo : Nat → Nat} : FE nb nj may NOB L mo NOB := by
  refine ⟨fun _ _ _ _ _ => rfl, fun b _ => ?_, fun j _ => ?_⟩
  · rw [show rowc nj NOB b = 0 from fb_ct_zero.mpr (fun _ _ => rfl)]; omega
  · rw [show colc nb NOB j = 0 from fb_ct_zero.mpr (fun _ _ => rfl)]; omega
theorem FE_zero {nb nj L : Nat} {may : Pl} {mo : Nat → Nat} {fx : Nat → Nat → Int} (h0 : ∀ b j, b < nb → j < nj → fx b j = 0) (p : Pl) : FE nb nj (frP may fx) (baF fx) L mo p ↔ FE nb nj may NOB L mo p := by
  unfold FE
  constructor
  · intro h
    refine ⟨fun b j hb hj hf => ?_, h.2⟩
    rw [h.1 b j hb hj (by unfold frP; rw [hf]; rfl)]
    unfold baF NOB
    rw [h0 b j hb hj]
    rfl
  · intro h
    refine ⟨fun b j hb hj hf => ?_, h.2⟩
    unfold frP at hf
    rw [h0 b j hb hj] at hf
    rw [h.1 b j hb hj (by simpa using hf)]
    unfold baF NOB
    rw [h0 b j hb hj]
    rfl
theorem KPM_sub {s t : St} (h : frs KP s t) : frs KPM s t := frs_sub h (fun c j e => by unfold KPM; rw [e]; rfl)
theorem planM_eq {F nb nj L : Nat} {mo : Nat → Nat} {may : Pl} {m0 : St} (hP : ∀ s, frs KP (put (put m0 0 1 0) 0 0 0) s → (∀ b j, b < nb → j < nj → s 14 (12 * b + j) = 0 ∨ s 14 (12 * b + j) = 1 ∨ s 14 (12 * b + j) = 2) → PD nb nj L mo may (fxS s) s) (hnb : nb ≤ 24) (hnj : nj ≤ 12) (hF : 300 ≤ F) : T (f_M_plan F m0) (PLM nb nj L mo may (put (put m0 0 1 0) 0 0 0)) := by
  unfold f_M_plan
  refine loopG (l := fun n (s : St) x => l_M_plan_12 F _ n s (x : Nat)) (N := 288) (I := fun k s => frs KP (put (put m0 0 1 0) 0 0 0) s ∧ ∀ i, i < k → s 14 i = 0) (G := fun r => T r _) ?_ ?_ 288 0 F (put (put m0 0 1 0) 0 0 0) (by omega) (by omega) ⟨frs_refl _ _, fun i h => absurd h (Nat.not_lt_zero i)⟩
  · intro n k s hk hI next
    show T (b_M_plan_12 F (l_M_plan_12 F _ n) _ s k) _
    unfold b_M_plan_12
    refine T_no (by rw [show w32 288 = 288 by decide, wnat (by omega)]; omega) (T_gd (inbN hk (by decide)) ?_)
    show T (l_M_plan_12 F _ n (put s 14 (ix (k : Int)) 0) ((k : Int) + 1)) _
    rw [ix_nat (by omega)]
    refine next _ ⟨frs_put hI.1 rfl, fun i hi => ?_⟩
    rw [put_at]
    by_cases e : i = k
    · rw [if_pos e]
    · rw [if_neg e]; exact hI.2 i (by omega)
  · intro n s hI
    obtain ⟨f1, z1⟩ := hI
    show T (b_M_plan_12 F (l_M_plan_12 F _ n) _ s ((288 : Nat) : Int)) _
    unfold b_M_plan_12
    refine T_yes (by decide) ?_
    have hfx : ∀ b j, b < nb → j < nj → fxS s b j = 0 := fun b j hb hj => z1 _ (by omega)
    have hPs := hP s f1 (fun b j hb hj => .inl (hfx b j hb hj))
    refine T_bind (T_mono (find_eq hPs (by omega)) (fun q hq => ?_))
    obtain ⟨r, s2⟩ := q
    obtain ⟨g1, g2⟩ := hq
    have g1 : frs KF s s2 := g1
    rcases g2 with ⟨e1, e2⟩ | ⟨p, e1, e2, e3⟩
    · exact absurd ((FE_zero hfx NOB).mpr FE_none) (e2 NOB)
    · have e2 : r = (tot nb nj p : Nat) := e2
      have hA : MAXP nb nj may L mo (tot nb nj p) := ⟨⟨p, (FE_zero hfx p).mp e1, rfl⟩, fun q hq => e3 q ((FE_zero hfx q).mpr hq)⟩
      have hA288 := tot_le hnb hnj p
      have f2 : frs KP (put (put m0 0 1 0) 0 0 0) s2 := frs_trans f1 (KF_KP g1)
      have z2 : ∀ i, i < 288 → s2 14 i = 0 := fun i hi => by rw [g1 14 i rfl]; exact z1 i hi
      show T (l_M_plan_39 F _ F s2 r 0) _
      rw [e2]
      refine plan_39 (m0 := put (put m0 0 1 0) 0 0 0) hA (fun s3 f3 hP3 r3 hL => ?_) ⟨f2, hP s2 f2 (fun b j hb hj => .inl (z2 _ (by omega))), fun k hk => by rw [z2 k hk]; decide, fun b j hb hj _ => z2 _ (by omega), fun b j hb hj hBf => by unfold BEF at hBf; omega⟩ (by omega)
      -- the plan is written down
      refine loopG (l := fun n (t : St) x => l_M_plan_113 F _ n t (tot nb nj p : Nat) (x : Nat)) (N := 288) (I := fun k t => (∀ c i, ¬ c = 9 → t c i = s3 c i) ∧ ∀ i, i < k → t 9 i = b2i (decide (s3 14 i = 1))) (G := fun r => T r _) ?_ ?_ 288 0 F s3 (by omega) (by omega) ⟨fun _ _ _ => rfl, fun i h => absurd h (Nat.not_lt_zero i)⟩
      · intro n k t hk hI next
        obtain ⟨i1, i2⟩ := hI
        show T (b_M_plan_113 F (l_M_plan_113 F _ n) _ t (tot nb nj p : Nat) k) _
        unfold b_M_plan_113
        have rk := r3 k hk
        refine T_no (by rw [show w32 288 = 288 by decide, wnat (by omega)]; omega) (T_gd (inbN hk (by decide)) ?_)
        have fin : ∀ v : Bool, v = decide (s3 14 k = 1) → T (b_M_plan_140 F (l_M_plan_113 F (fun s7 x1_8 => let s9 := put s7 0 15 1; let s10 := put s9 0 16 (s9 0 4); let s11 := put s10 0 17 (s10 0 5); l_M_plan_170 F (fun s12 x1_13 => l_M_plan_247 F (fun s14 x1_15 => some (((s14 0 6) * (s14 0 4)) - x1_15, s14)) F s12 x1_13 1) F s11 x1_8 0) n) (fun s7 x1_8 => let s9 := put s7 0 15 1; let s10 := put s9 0 16 (s9 0 4); let s11 := put s10 0 17 (s10 0 5); l_M_plan_170 F (fun s12 x1_13 => l_M_plan_247 F (fun s14 x1_15 => some (((s14 0 6) * (s14 0 4)) - x1_15, s14)) F s12 x1_13 1) F s11 x1_8 0) t (tot nb nj p : Nat) k (b2i v) k) (PLM nb nj L mo may (put (put m0 0 1 0) 0 0 0)) := by
          intro v hv
          unfold b_M_plan_140
          refine T_gd (inbN hk (by decide)) ?_
          show T (l_M_plan_113 F _ n (put t 9 (ix (k : Int)) (nz (b2i v))) (tot nb nj p : Nat) ((k : Int) + 1)) _
          rw [ix_nat (by omega)]
          refine next _ ⟨fun c i hc => by rw [put_c hc]; exact i1 c i hc, fun i hi => ?_⟩
          rw [put_at]
          by_cases e : i = k
          · rw [if_pos e, e, ← hv]
            cases v <;> decide
          · rw [if_neg e]; exact i2 i (by omega)
        rw [ix_nat (by omega), i1 14 k (by decide), wid (a := s3 14 k) (by omega) (by omega), show w32 1 = 1 by decide]
        exact T_if (fun c => fin true (decide_eq_true c).symm) (fun c => fin false (decide_eq_false c).symm)
      · intro n t hI
        obtain ⟨i1, i2⟩ := hI
        show T (b_M_plan_113 F (l_M_plan_113 F _ n) _ t (tot nb nj p : Nat) ((288 : Nat) : Int)) _
        unfold b_M_plan_113
        refine T_yes (by decide) ?_
        show T (l_M_plan_170 F _ F (put (put (put t 0 15 1) 0 16 (t 0 4)) 0 17 (t 0 5)) (tot nb nj p : Nat) 0) _
        have hPt : PD nb nj L mo may (fxS s3) (put (put (put t 0 15 1) 0 16 (t 0 4)) 0 17 (t 0 5)) := by
          obtain ⟨d1, d2, d3, d4, d5, d6, d7, d8, d9, d10, d11⟩ := hP3
          refine ⟨d1, d2, d3, d4, (i1 0 4 (by decide)).trans d5, (i1 0 5 (by decide)).trans d6, (i1 0 6 (by decide)).trans d7, fun j hj => ?_, fun b hb => ?_, fun b j hb hj => ?_, fun b j hb hj => ?_⟩
          · show t 7 j = _ ∧ _ ∧ i32 (t 6 j)
            rw [i1 7 j (by decide), i1 6 j (by decide)]; exact d8 j hj
          · show i32 (t 3 b)
            rw [i1 3 b (by decide)]; exact d9 b hb
          · rw [← d10 b j hb hj]
            show mayB t j b = mayB s3 j b
            unfold mayB
            rw [i1 5 j (by decide), i1 1 b (by decide), i1 6 j (by decide), i1 3 b (by decide)]
          · show t 14 (12 * b + j) = _ ∧ _
            rw [i1 14 _ (by decide)]; exact d11 b j hb hj
        have hHD : HD nb nj L mo may (baF (fxS s3)) (fxS s3) (put (put (put t 0 15 1) 0 16 (t 0 4)) 0 17 (t 0 5)) := ⟨hPt, fun b j hb hj => i2 _ (by omega)⟩
        refine plan_170 hHD (fun t2 hI2 => ?_) (by omega)
        refine plan_247 hHD (fun t3 f3b v3 hH => T_some ?_) hI2 (by omega)
        have d4 : t 0 4 = nb := hPt.2.2.2.2.1
        have d5 : t 0 5 = nj := hPt.2.2.2.2.2.1
        have d6 : t 0 6 = L := hPt.2.2.2.2.2.2.1
        refine ⟨tot nb nj p, baF (fxS s3), hS t3, hA, hL, hH, hA288, ?_, fun c i hc => ?_, ?_, ?_, ?_, fun b j hb hj => ?_, fun b hb => ?_⟩
        · show t3 0 6 * t3 0 4 - _ = _
          rw [f3b 0 6 rfl, f3b 0 4 rfl]
          show t 0 6 * t 0 4 - _ = _
          rw [d6, d4]
        · have h1 : KP c i = false := by
            cases e : KP c i with
            | false => rfl
            | true => unfold KPM at hc; rw [e] at hc; cases hc
          have h9 : ¬ c = 9 := fun e => by rw [e] at hc; cases hc
          have h11 : ¬ c = 11 := fun e => by rw [e] at hc; cases hc
          have n15 : ¬ (c = 0 ∧ i = 15) := fun e => by rw [e.1, e.2] at hc; cases hc
          have n16 : ¬ (c = 0 ∧ i = 16) := fun e => by rw [e.1, e.2] at hc; cases hc
          have n17 : ¬ (c = 0 ∧ i = 17) := fun e => by rw [e.1, e.2] at hc; cases hc
          show t3 c i = _
          rw [f3b c i (by unfold K11; simp [h11])]
          show (put (put (put t 0 15 1) 0 16 (t 0 4)) 0 17 (t 0 5)) c i = _
          unfold put
          rw [if_neg n17, if_neg n16, if_neg n15, i1 c i h9]
          exact f3 c i h1
        · show t3 0 15 = 1
          rw [f3b 0 15 rfl]
          rfl
        · show t3 0 16 = nb
          rw [f3b 0 16 rfl]
          exact d4
        · show t3 0 17 = nj
          rw [f3b 0 17 rfl]
          exact d5
        · show t3 9 (12 * b + j) = _
          rw [f3b 9 _ rfl]
          exact i2 _ (by omega)
        · show t3 11 b = b2i (hS t3 b)
          unfold hS
          rcases v3 b hb with e | e <;> rw [e] <;> rfl
