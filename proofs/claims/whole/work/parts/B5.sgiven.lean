/-! given -/
section CG5
variable {F nb nj cp R : Nat} {hs : Nat → Nat → Bool} {fa fb : Nat → Int} {m sx : St} {l : Nat → Nat}
theorem given_241 (hp : ∀ b, 0 < manyq hs b → b < nb ∧ R63 (fa b) ∧ R63 (fb b) ∧ 0 < fb b) (hS : SRT fa fb (mkq hs) 24 R l) (hR : IRr cp sx m) {p prize k : Nat} (hpp : (p : Int) < m 0 51) (hle : p ≤ prize) (hpr : prize < 8) (hk31 : k < 2147483648) {one : Nat → Bool} {s0 : St} (hG : GS nb nj hs fa fb m s0) (h48 : ∀ b, b < nb → s0 48 b = b01 (one b = true)) (h49 : ∀ b, b < nb → s0 49 b = b01 (¬ (0 < manyq hs b ∧ okq hs m one p b = true))) {k386 : St → Int → Int → Int → Option (Int × St)} {Q : Int × St → Prop} (hret : p = prize → k < min (m 37 p).toNat (fb_ct (fun i => okq hs m one p (l i)) R) → ∀ s, frs K489 s0 s → Q (((l (nthq (fun i => okq hs m one p (l i)) R k) : Nat) : Int), s)) (hk : (p = prize → ¬ k < min (m 37 p).toNat (fb_ct (fun i => okq hs m one p (l i)) R)) → ∀ s, frs K489 s0 s → (∀ b, b < nb → s 48 b = b01 ((one b || givq (fun i => okq hs m one p (l i)) l R (m 37 p).toNat b) = true)) → T (k386 s prize k p) Q) (hF : 300 ≤ F) : T (l_M_given_241 F k386 F s0 prize k p 0) Q := by
  have r0 := hR.1
  have r := hR.2 p hpp
  have b24 := hG.1.1
  have p8 : p < 8 := by omega
  have ip : inb (p : Int) 8 := inbN p8 (by decide)
  have ixp : ix (p : Int) = p := ix_nat (by omega)
  obtain ⟨best, hbest⟩ : ∃ n : Nat, n = (m 37 p).toNat := ⟨_, rfl⟩
  obtain ⟨cnt, hcnt⟩ : ∃ n : Nat, n = fb_ct (fun i => okq hs m one p (l i)) R := ⟨_, rfl⟩
  rw [← hbest, ← hcnt] at hret
  rw [← hbest, ← hcnt] at hk
  have bp : m 37 p = best := by omega
  have b1 : best ≤ 24 := by omega
  refine loopW (l := fun n (a : St × Nat) => l_M_given_241 F k386 n a.1 prize k p (a.2 : Nat)) (I := fun a => frs K489 s0 a.1 ∧ ((a.2 ≤ best ∧ a.2 ≤ cnt ∧ (∀ b, b < nb → a.1 48 b = b01 ((one b || givq (fun i => okq hs m one p (l i)) l R a.2 b) = true)) ∧ (∀ b, b < nb → a.1 49 b = b01 (¬ (0 < manyq hs b ∧ okq hs m one p b = true) ∨ givq (fun i => okq hs m one p (l i)) l R a.2 b = true)) ∧ (p = prize → k < min best cnt → a.2 ≤ k)) ∨ (a.2 = best + 1 ∧ (∀ b, b < nb → a.1 48 b = b01 ((one b || givq (fun i => okq hs m one p (l i)) l R best b) = true)) ∧ (p = prize → ¬ k < min best cnt)))) (mu := fun a => 26 - a.2) (G := fun r => T r Q) ?_ 26 F (s0, 0) (by show 26 - 0 ≤ 26; omega) (by omega) ⟨frs_refl _ _, .inl ⟨Nat.zero_le _, Nat.zero_le _, fun b hb => ?_, fun b hb => ?_, fun _ _ => Nat.zero_le _⟩⟩
  · intro n a hI next
    obtain ⟨s, i⟩ := a
    obtain ⟨f, hI⟩ := hI
    simp only at f hI
    have hGs := GS_cong hG f
    have e37 : s 37 p = best := by
      rw [hGs.2.1 37 p (by show ¬ (8 : Nat) = 0; decide) (by show ¬ (8 : Nat) = 4; decide)]; exact bp
    show T (b_M_given_241 F (l_M_given_241 F k386 n) k386 s prize k p i) Q
    unfold b_M_given_241
    refine T_gd ip ?_
    rw [ixp, e37, wnat (show best < 2147483648 by omega)]
    rcases hI with ⟨i1, i2, i3, i4, i5⟩ | ⟨i1, i2, i3⟩
    · rw [wnat (show i < 2147483648 by omega)]
      by_cases c : best ≤ i
      · have e : i = best := by omega
        refine T_yes (by omega) (hk (fun a b => ?_) s f (fun b hb => by rw [i3 b hb, e]))
        have := i5 a b
        omega
      · refine T_no (by omega) ?_
        refine given_259 hp hGs (U := fun b => mkq hs b ∧ okq hs m one p b = true ∧ givq (fun i => okq hs m one p (l i)) l R i b = false) (fun b ub => ub.1) (fun b hb => ?_) (fun ff hff => ?_) hF
        · rw [i4 b hb, b01_0]
          constructor
          · intro z
            refine ⟨?_, ?_, ?_⟩
            · apply Classical.byContradiction
              exact fun q => z (.inl (fun w => q w.1))
            · apply Classical.byContradiction
              exact fun q => z (.inl (fun w => q w.2))
            · cases e : givq (fun i => okq hs m one p (l i)) l R i b with
              | false => rfl
              | true => exact absurd (.inr e) z
          · rintro ⟨z1, z2, z3⟩ (w | w)
            · exact w ⟨z1, z2⟩
            · rw [z3] at w; cases w
        · have ef := pick_eq hS (okb := okq hs m one p) (q := i) hff
          rw [← hcnt] at ef
          by_cases ci : i < cnt
          · rw [if_pos ci] at ef
            have z := nthq_spec (P := fun i => okq hs m one p (l i)) (N := R) (i := i) (by omega)
            have lx := hS.1 _ z.1
            rw [ef]
            generalize hy : l (nthq (fun i => okq hs m one p (l i)) R i) = y at lx
            have yb : y < nb := (hp y lx.1).1
            have iy : inb (y : Int) 24 := inbN lx.2 (by decide)
            refine T_yes (by rw [wnat (by omega)]; omega) ?_
            have go : (p = prize → k < min best cnt → i ≠ k) → T (b_M_given_359 F (l_M_given_241 F k386 n) k386 s prize k p i y) Q := by
              intro hne
              unfold b_M_given_359
              refine T_no (by rw [wnat (by omega)]; omega) (T_gd iy (T_gd iy ?_))
              rw [ix_nat (show y < 2147483648 by omega), nz_1]
              refine next (put (put s 49 y 1) 48 y 1, i + 1) ⟨frs_put (frs_put f rfl) rfl, .inl ⟨by show i + 1 ≤ best; omega, by show i + 1 ≤ cnt; omega, fun b hb => ?_, fun b hb => ?_, fun a b => ?_⟩⟩ (by show 26 - (i + 1) < 26 - i; omega)
              · show put (put s 49 y 1) 48 y 1 48 b = b01 ((one b || givq (fun i => okq hs m one p (l i)) l R (i + 1) b) = true)
                rw [givq_succ (by omega), hy, put_at]
                by_cases e : b = y
                · rw [if_pos e]
                  unfold b01
                  rw [if_pos (by simp [e])]
                · rw [if_neg e, put_c (by decide), i3 b hb]
                  refine b01_b ?_
                  simp [e]
              · show put (put s 49 y 1) 48 y 1 49 b = b01 (¬ (0 < manyq hs b ∧ okq hs m one p b = true) ∨ givq (fun i => okq hs m one p (l i)) l R (i + 1) b = true)
                rw [givq_succ (by omega), hy, put_c (by decide), put_at]
                by_cases e : b = y
                · rw [if_pos e]
                  unfold b01
                  rw [if_pos (.inr (by simp [e]))]
                · rw [if_neg e, i4 b hb]
                  unfold b01
                  have ee : (givq (fun i => okq hs m one p (l i)) l R i b || decide (b = y)) = givq (fun i => okq hs m one p (l i)) l R i b := by simp [e]
                  rw [ee]
              · have := i5 a b
                have := hne a b
                show i + 1 ≤ k
                omega
            by_cases cp2 : p = prize
            · refine T_yes (by rw [cp2]) ?_
              by_cases ck : i = k
              · subst ck
                refine T_yes (by rw [wnat (by omega)]) (T_some ?_)
                rw [← hy]
                exact hret cp2 (by omega) s f
              · exact T_no (by rw [wnat (by omega), wnat hk31]; omega) (go (fun _ _ => ck))
            · exact T_no (by rw [wnat (by omega), wnat (by omega)]; omega) (go (fun a => absurd a cp2))
          · rw [if_neg ci] at ef
            rw [ef]
            refine T_no (by decide) (T_gd ip ?_)
            unfold b_M_given_359
            refine T_yes (by decide) ?_
            rw [ixp, e37]
            refine next (s, best + 1) ⟨f, .inr ⟨rfl, fun b hb => ?_, fun a b => ?_⟩⟩ (by show 26 - (best + 1) < 26 - i; omega)
            · show s 48 b = b01 ((one b || givq (fun i => okq hs m one p (l i)) l R best b) = true)
              rw [i3 b hb, givq_big (q := i) (q2 := best) (by omega) (by omega)]
            · have := i5 a b
              omega
    · rw [wnat (show i < 2147483648 by omega)]
      exact T_yes (by omega) (hk i3 s f i2)
  · show s0 48 b = b01 ((one b || givq (fun i => okq hs m one p (l i)) l R 0 b) = true)
    rw [h48 b hb]
    refine b01_b ?_
    rw [givq_0, Bool.or_false]
  · show s0 49 b = b01 (¬ (0 < manyq hs b ∧ okq hs m one p b = true) ∨ givq (fun i => okq hs m one p (l i)) l R 0 b = true)
    rw [h49 b hb]
    unfold b01
    by_cases w : 0 < manyq hs b ∧ okq hs m one p b = true
    · rw [if_neg (fun q => q w), if_neg (fun q => by
        rcases q with q | q
        · exact q w
        · rw [givq_0] at q; cases q)]
    · rw [if_pos w, if_pos (.inl w)]
theorem given_191 (hp : ∀ b, 0 < manyq hs b → b < nb ∧ R63 (fa b) ∧ R63 (fb b) ∧ 0 < fb b) (hS : SRT fa fb (mkq hs) 24 R l) (hR : IRr cp sx m) (hB : IB sx m) (h4 : m 0 4 = nb) {prize k : Nat} (hpp : (prize : Int) < m 0 51) (hk31 : k < 2147483648) {s0 : St} (hG : GS nb nj hs fa fb m s0) (h48 : ∀ b, b < nb → s0 48 b = 0) {k392 : St → Option (Int × St)} {Q : Int × St → Prop} (hret : k < min (m 37 prize).toNat (fb_ct (fun i => okq hs m (oneq hs m l R prize) prize (l i)) R) → ∀ s, frs K489 s0 s → Q (((l (nthq (fun i => okq hs m (oneq hs m l R prize) prize (l i)) R k) : Nat) : Int), s)) (hk : ¬ k < min (m 37 prize).toNat (fb_ct (fun i => okq hs m (oneq hs m l R prize) prize (l i)) R) → ∀ s, frs K489 s0 s → T (k392 s) Q) (hF : 300 ≤ F) : T (l_M_given_191 F k392 F s0 prize k 0) Q := by
  have r0 := hR.1
  refine loopG (l := fun n (s : St) x => l_M_given_191 F k392 n s prize k (x : Nat)) (N := prize + 1) (I := fun p s => frs K489 s0 s ∧ (∀ b, b < nb → s 48 b = b01 (oneq hs m l R p b = true)) ∧ (p = prize + 1 → ¬ k < min (m 37 prize).toNat (fb_ct (fun i => okq hs m (oneq hs m l R prize) prize (l i)) R))) (G := fun r => T r Q) ?_ ?_ (prize + 1) 0 F s0 (by omega) (by omega) ⟨frs_refl _ _, fun b hb => by rw [h48 b hb]; rfl, fun e => by omega⟩
  · intro n p s hp2 hI next
    obtain ⟨f, i1, i2⟩ := hI
    have hGs := GS_cong hG f
    show T (b_M_given_191 F (l_M_given_191 F k392 n) k392 s prize k p) Q
    unfold b_M_given_191
    refine T_no (by rw [wnat (by omega), wnat (by omega)]; omega) ?_
    refine given_200 hR hB h4 (show (p : Int) < m 0 51 by omega) hGs i1 (fun t ft t1 => ?_) (by omega)
    have f2 : frs K489 s0 t := frs_trans f (K49_489 ft)
    refine given_241 hp hS hR (show (p : Int) < m 0 51 by omega) (show p ≤ prize by omega) (by omega) hk31 (GS_cong hGs (K49_489 ft)) (fun b hb => by rw [ft 48 b rfl]; exact i1 b hb) t1 (fun e lt u fu => ?_) (fun hn u fu u1 => ?_) hF
    · subst e
      exact hret lt u (frs_trans f2 fu)
    · refine next u ⟨frs_trans f2 fu, fun b hb => ?_, fun e => ?_⟩
      · rw [u1 b hb]; rfl
      · have e2 : p = prize := by omega
        subst e2
        exact hn rfl
  · intro n s hI
    obtain ⟨f, i1, i2⟩ := hI
    show T (b_M_given_191 F (l_M_given_191 F k392 n) k392 s prize k ((prize + 1 : Nat) : Int)) Q
    unfold b_M_given_191
    exact T_yes (by rw [wnat (by omega), wnat (by omega)]; omega) (hk (i2 rfl) s f)
end CG5
theorem KV_g {c j : Nat} (h : gX c j ≠ 0) : KV c j = false := by
  cases e : KV c j with
  | false => rfl
  | true =>
    exfalso
    apply h
    unfold KV at e
    simp only [Bool.or_eq_true, beq_iff_eq, Bool.and_eq_true, decide_eq_true_eq] at e
    unfold gX
    rw [if_neg (by omega), if_neg (by omega), if_neg (by omega), if_neg (by omega), if_neg (by omega), if_neg (by omega), if_neg (by omega), if_neg (by omega), if_neg (by omega), if_neg (by omega), if_neg (by omega), if_pos (by omega)]
theorem KO_g {c j : Nat} (h : gX c j ≠ 0) : KO c j = false := by
  cases e : KO c j with
  | false => rfl
  | true =>
    exfalso
    apply h
    unfold KO at e
    simp only [Bool.or_eq_true, beq_iff_eq] at e
    rcases e with (e | e) | e <;> rw [e] <;> rfl
theorem K489_g {c j : Nat} (h : gM c j ≠ 0) : K489 c j = false := by
  cases e : K489 c j with
  | false => rfl
  | true =>
    exfalso
    apply h
    unfold K489 at e
    simp only [Bool.or_eq_true, beq_iff_eq] at e
    rcases e with e | e <;> rw [e] <;> rfl
theorem s_given {F : Nat} (hF : 4000 ≤ F) : st_given F (INV F) := by
  intro sx sm h a1 a2 a3 r1 r2 r3
  have h0 := h
  obtain ⟨nb, nj, nm, q4, q5, q29, hD, hX⟩ := MD_of h
  obtain ⟨hB, hJ, hL, hS, hM, hFr, hT, hR, hH, hP⟩ := h
  have sH : ∀ v : Int, INV F (put sx 0 13 v) (put (put (put sm 0 1 0) 0 0 0) 0 0 v) := fun v => ⟨hB, hJ, hL, rfl, hM, hFr, hT, hR, hH, hP⟩
  obtain ⟨cp, hcp, e10, hRr⟩ : ∃ cp : Nat, (cp = 80 ∨ cp = 88) ∧ sx 0 10 = cp ∧ IRr cp sx sm := by
    rcases hR with ⟨e, _, q⟩ | ⟨e, _, q⟩
    · exact ⟨80, .inl rfl, e, q⟩
    · exact ⟨88, .inr rfl, e, q⟩
  have r0 := hRr.1
  have b0 := hB.1
  have ecp : (sx 0 10).toNat = cp := by rw [e10]; exact Int.toNat_natCast cp
  have w1 : w32 a1 = a1 := by unfold i32 at r1; exact wid (by omega) (by omega)
  have w2 : w32 a2 = a2 := by unfold i32 at r2; exact wid (by omega) (by omega)
  have w51 : w32 (sm 0 51) = sm 0 51 := wid (by omega) (by omega)
  have has : f_Prize_has cp sx a1 = some (b01 (0 ≤ a1 ∧ a1 < sm 0 51), sx) := by
    unfold f_Prize_has
    rw [r0.1]
    exact has_gen r1 (by unfold i32; omega)
  refine mk2 ?_
  unfold f_H_given
  rw [ecp]
  refine T_gd (by unfold PRc; exact hcp) (T_bind (T_eq has ?_))
  dsimp only
  have m26 : ∀ {P : Int × St → Prop}, P (-1, put (put (put sm 0 1 0) 0 0 0) 0 0 1) → T (b_M_given_26 F (put (put sm 0 1 0) 0 0 0)) P := fun p => T_bind (T_some (T_some p))
  have e51 : (put (put sm 0 1 0) 0 0 0) 0 51 = sm 0 51 := rfl
  by_cases c1 : 0 ≤ a1 ∧ a1 < sm 0 51
  · obtain ⟨p, hp⟩ : ∃ n : Nat, a1 = n := ⟨a1.toNat, by omega⟩
    subst hp
    refine T_no (fun q => b01_0.mp q c1) ?_
    by_cases c2 : 0 ≤ a2
    · obtain ⟨k, hk⟩ : ∃ n : Nat, a2 = n := ⟨a2.toNat, by omega⟩
      subst hk
      have k31 : k < 2147483648 := by unfold i32 at r2; omega
      refine T_yes (by rw [w2]; exact c2) (T_bind (T_eq (isDayH_eq r3) ?_))
      have mm : ∀ {P : Int × St → Prop}, T ((f_M_isDay (put (put sm 0 1 0) 0 0 0) a3).bind fun q6 => if w32 q6.1 = 0 then (f_M_refuse q6.2 2).bind fun q8 => some (q8.1, q8.2) else (f_M_known F q6.2 a3).bind fun q9 => l_M_given_53 F (fun s10 x1_11 x2_12 => l_M_given_103 F (fun s13 x1_14 x2_15 => l_M_given_191 F (fun s16 => (f_M_refuse s16 1).bind fun q17 => some (q17.1, q17.2)) F s13 x1_14 x2_15 0) F s10 x1_11 x2_12 0) F q9 p k 0) P → T (f_M_given F sm p k a3) P := fun pp => T_no (by rw [w1]; omega) (T_no (by rw [e51, w1, w51]; omega) (T_yes (by rw [w2]; exact c2) pp))
      by_cases c3 : 0 ≤ a3 ∧ a3 ≤ 999
      · obtain ⟨x2, m2, e1, e2, hK⟩ := known_both (F := F) (by omega) hD hX c3
        have hK0 := hK
        obtain ⟨k1, k2, k3, k4, k5, k6, k7, k8, k9, k10, k11, k12, k13⟩ := hK
        have s0 : m2 0 0 = 0 := by rw [k3 0 0 rfl]; rfl
        refine T_no (fun q => b01_0.mp q c3) (T_bind (T_eq e1 ?_))
        have mm2 : ∀ {P : Int × St → Prop}, T (l_M_given_53 F (fun s10 x1_11 x2_12 => l_M_given_103 F (fun s13 x1_14 x2_15 => l_M_given_191 F (fun s16 => (f_M_refuse s16 1).bind fun q17 => some (q17.1, q17.2)) F s13 x1_14 x2_15 0) F s10 x1_11 x2_12 0) F m2 p k 0) P → T (f_M_given F sm p k a3) P := fun pp => mm (T_bind (T_eq (isDayM_eq r3) (T_no (fun q => b01_0.mp q c3) (T_bind (T_eq e2 pp)))))
        have ag := anyGreat_eq hK0 (F := F) (by omega)
        by_cases c4 : BIG nj m2
        · refine T_bind (T_eq (ag.1 c4) (T_no (show ¬ w32 1 = 0 by decide) (T_bind (T_some (T_some (mm2 ((given_53 hK0 (by omega)).2 c4 ⟨rfl, ?_⟩)))))))
          refine KNW_inv h0 hK0 (fun c j z1 z2 => ?_) (fun c j z1 z2 => ?_) rfl
          · exact if_neg (fun z => z2 (by rw [z.1, z.2]; rfl))
          · exact if_neg (fun z => z2 (by rw [z.1, z.2]; rfl))
        · refine T_bind (T_eq (ag.2 c4) (T_yes (show w32 0 = 0 by decide) (T_bind (T_mono (weighAll_eq hK0 c4 (by omega)) (fun t1 ht1 => ?_)))))
          obtain ⟨f1, v1⟩ := ht1
          have f1 : frs KW x2 t1 := f1
          refine T_bind (T_mono (rank_eq hK0 c4 (fun j => f1 27 j rfl) v1 (by omega)) (fun t2 ht2 => ?_))
          obtain ⟨f2, R, l, hS, g43, g46⟩ := ht2
          have fr : ∀ c j, gX c j ≠ 0 → t2 c j = sx c j := fun c j z => by rw [f2 c j (KV_g z), f1 c j (KW_g z), k2 c j (KX_g z)]
          have e10t : (t2 0 10).toNat = cp := by rw [fr 0 10 (by decide)]; exact ecp
          rw [e10t]
          have hRt : IRr cp t2 sm := IRr_cong hcp (fun c j e => fr c j (by omega)) (fun _ _ _ => rfl) hRr
          have hBt : IB t2 sm := IB_cong (fun c j e => fr c j (by omega)) (fun _ _ _ => rfl) hB
          have hCt : HX (hsOf (put (put sm 0 1 0) 0 0 0) a3 nm) t2 := ⟨k7.1, fun b j hb hj => by rw [f2 27 _ rfl, f1 27 _ rfl]; exact k7.2 b j hb hj⟩
          have mkn : ∀ b, mkq (hsOf (put (put sm 0 1 0) 0 0 0) a3 nm) b → b < nb := fun b hb => (hsOf_in hD (jbq_t hb).1).1
          refine T_gd (by unfold PRc; exact hcp) (T_bind (T_mono (gives_eq hcp hRt hBt (show (p : Int) < sm 0 51 by omega) hCt q4 mkn hS g43 g46 (by omega)) (fun t3 ht3 => ?_)))
          obtain ⟨f3, p1, p2⟩ := ht3
          have frx : ∀ c j, gX c j ≠ 0 → t3 c j = x2 c j := fun c j z => by rw [f3 c j (KO_g z), f2 c j (KV_g z), f1 c j (KW_g z)]
          have ml : min (sm 37 p).toNat (fb_ct (fun i => okq (hsOf (put (put sm 0 1 0) 0 0 0) a3 nm) sm (oneq (hsOf (put (put sm 0 1 0) 0 0 0) a3 nm) sm l R p) p (l i)) R) ≤ 24 := by
            have := SRT_len hS
            have := fb_ct_le (fun i => okq (hsOf (put (put sm 0 1 0) 0 0 0) a3 nm) sm (oneq (hsOf (put (put sm 0 1 0) 0 0 0) a3 nm) sm l R p) p (l i)) R
            omega
          have wp : w32 (t3 43 0) = ((min (sm 37 p).toNat (fb_ct (fun i => okq (hsOf (put (put sm 0 1 0) 0 0 0) a3 nm) sm (oneq (hsOf (put (put sm 0 1 0) 0 0 0) a3 nm) sm l R p) p (l i)) R) : Nat) : Int) := by rw [p1, wnat (by omega)]
          have hpf : ∀ b, 0 < manyq (hsOf (put (put sm 0 1 0) 0 0 0) a3 nm) b → b < nb ∧ R63 (faq (hsOf (put (put sm 0 1 0) 0 0 0) a3 nm) (ptq (put (put sm 0 1 0) 0 0 0) a3 nm) nj m2 b) ∧ R63 (fbq (hsOf (put (put sm 0 1 0) 0 0 0) a3 nm) (ptq (put (put sm 0 1 0) 0 0 0) a3 nm) nj m2 b) ∧ 0 < fbq (hsOf (put (put sm 0 1 0) 0 0 0) a3 nm) (ptq (put (put sm 0 1 0) 0 0 0) a3 nm) nj m2 b := fun b hb => ⟨mkn b hb, KNW_fab hK0 c4 hb⟩
          have m191 : ∀ {Q : Int × St → Prop}, (k < min (sm 37 p).toNat (fb_ct (fun i => okq (hsOf (put (put sm 0 1 0) 0 0 0) a3 nm) sm (oneq (hsOf (put (put sm 0 1 0) 0 0 0) a3 nm) sm l R p) p (l i)) R) → ∀ u, (∀ c j, gM c j ≠ 0 → u c j = m2 c j) → Q (((l (nthq (fun i => okq (hsOf (put (put sm 0 1 0) 0 0 0) a3 nm) sm (oneq (hsOf (put (put sm 0 1 0) 0 0 0) a3 nm) sm l R p) p (l i)) R k) : Nat) : Int), u)) → (¬ k < min (sm 37 p).toNat (fb_ct (fun i => okq (hsOf (put (put sm 0 1 0) 0 0 0) a3 nm) sm (oneq (hsOf (put (put sm 0 1 0) 0 0 0) a3 nm) sm l R p) p (l i)) R) → ∀ u, (∀ c j, gM c j ≠ 0 → u c j = m2 c j) → Q (-1, put u 0 0 1)) → T (f_M_given F sm p k a3) Q := by
            intro Q qa qb
            refine mm2 ((given_53 hK0 (by omega)).1 c4 (given_103 hK0 c4 (fun s fs gs => ?_) hF))
            have hG : GS nb nj (hsOf (put (put sm 0 1 0) 0 0 0) a3 nm) (faq (hsOf (put (put sm 0 1 0) 0 0 0) a3 nm) (ptq (put (put sm 0 1 0) 0 0 0) a3 nm) nj m2) (fbq (hsOf (put (put sm 0 1 0) 0 0 0) a3 nm) (ptq (put (put sm 0 1 0) 0 0 0) a3 nm) nj m2) sm s := by
              refine ⟨(REF_KY (KNW_ref hK0) fs).1, fun c j z1 z2 => ?_, fun c hc => (gs c hc).2.1, fun c hc => (gs c hc).2.2⟩
              rw [fs c j (KY_g z1), k3 c j (K256_g z1), put_g (c0 := 0) (j0 := 0) (c := c) (j := j) (fun z => z2 (by rw [z.1, z.2]; rfl)), put_g (c0 := 0) (j0 := 1) (c := c) (j := j) (fun z => z1 (by rw [z.1, z.2]; rfl))]
            refine given_191 hpf hS hRr hB q4 (show (p : Int) < sm 0 51 by omega) k31 hG (fun b hb => (gs b hb).1) (fun lt u fu => qa lt u (fun c j z => by rw [fu c j (K489_g z), fs c j (KY_g z)])) (fun nl u fu => ?_) (by omega)
            exact T_bind (T_some (T_some (qb nl u (fun c j z => by rw [fu c j (K489_g z), fs c j (KY_g z)]))))
          by_cases c5 : k < min (sm 37 p).toNat (fb_ct (fun i => okq (hsOf (put (put sm 0 1 0) 0 0 0) a3 nm) sm (oneq (hsOf (put (put sm 0 1 0) 0 0 0) a3 nm) sm l R p) p (l i)) R)
          · refine T_yes (by rw [wp, w2]; omega) (T_gd (inbN (by omega) (by decide)) (T_bind (T_some (T_some (m191 (fun _ u fu => ⟨?_, ?_⟩) (fun n => absurd c5 n))))))
            · show w32 (t3 44 (ix (k : Int))) = w32 _
              rw [ix_nat k31, p2 k c5]
            · refine KNW_inv h0 hK0 (fun c j z1 z2 => ?_) (fun c j z1 z2 => fu c j z1) ?_
              · show put t3 0 13 0 c j = _
                rw [put_g (c0 := 0) (j0 := 13) (c := c) (j := j) (fun z => z2 (by rw [z.1, z.2]; rfl))]
                exact frx c j z1
              · show (0 : Int) = u 0 0
                rw [fu 0 0 (by decide), s0]
          · refine T_no (by rw [wp, w2]; omega) (T_bind (T_some (T_some (m191 (fun q => absurd q c5) (fun _ u fu => ⟨rfl, ?_⟩)))))
            refine KNW_inv h0 hK0 (fun c j z1 z2 => ?_) (fun c j z1 z2 => ?_) rfl
            · show put t3 0 13 1 c j = _
              rw [put_g (c0 := 0) (j0 := 13) (c := c) (j := j) (fun z => z2 (by rw [z.1, z.2]; rfl))]
              exact frx c j z1
            · show put u 0 0 1 c j = _
              rw [put_g (c0 := 0) (j0 := 0) (c := c) (j := j) (fun z => z2 (by rw [z.1, z.2]; rfl))]
              exact fu c j z1
      · refine T_yes (b01_0.mpr c3) (T_bind (T_some (T_some (mm ?_))))
        exact T_bind (T_eq (isDayM_eq r3) (T_yes (b01_0.mpr c3) (T_bind (T_some (T_some ⟨rfl, sH 2⟩)))))
    · refine T_no (by rw [w2]; exact c2) (T_bind (T_some (T_some ?_)))
      exact T_no (by rw [w1]; omega) (T_no (by rw [e51, w1, w51]; omega) (T_no (by rw [w2]; exact c2) (m26 ⟨rfl, sH 1⟩)))
  · refine T_yes (b01_0.mpr c1) (T_bind (T_some (T_some ?_)))
    by_cases c : a1 < 0
    · exact T_yes (by rw [w1]; exact c) (m26 ⟨rfl, sH 1⟩)
    · exact T_no (by rw [w1]; exact c) (T_yes (by rw [e51, w1, w51]; omega) (m26 ⟨rfl, sH 1⟩))
