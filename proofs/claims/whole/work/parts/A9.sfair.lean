/-! fair, both sides -/
theorem KFa_g {c j : Nat} (h : gM c j ≠ 0) : KFa c j = false := by
  have z := KS_g h
  unfold KFa
  rw [z]
  cases e : (c == 0 && (j == 79 || j == 80)) with
  | false => rfl
  | true =>
    exfalso
    apply h
    simp only [Bool.or_eq_true, beq_iff_eq, Bool.and_eq_true] at e
    rcases e with ⟨e, e2 | e2⟩ <;> rw [e, e2] <;> rfl
section SF
variable {nb nj nm : Nat} {day : Int} {x1 m1 x2 m2 : St}
/-- the heap around a board that has marks -/
theorem KNW_brd (hK : KNW nb nj nm day x1 m1 x2 m2) {b j0 : Nat} (hb : hsOf m1 day nm b j0 = true) : j0 < nj ∧ b < nb ∧ 0 ≤ m2 26 j0 ∧ m2 26 j0 < 12 ∧ (∀ j, hsOf m1 day nm b j = true → m2 26 j = m2 26 j0) ∧ (∀ j, hsOf m1 day nm b j = true → x2 26 j = m2 26 j0) ∧ Pq nj m2 (m2 26 j0) j0 = true := by
  have r := fun h => KNW_rng hK (j := j0) h
  obtain ⟨k1, k2, k3, k4, k5, k6, k7, k8, k9, k10, k11, k12, k13⟩ := hK
  have z := hsOf_in k1 hb
  have a : 0 ≤ m2 26 j0 := ((k8 j0 z.2).1 ⟨b, hb⟩).1
  exact ⟨z.2, z.1, a, (r z.2).2, fun j e => k9 b j j0 e hb, fun j e => by rw [k12 j (hsOf_in k1 e).2]; exact k9 b j j0 e hb, Pq_iff.mpr ⟨z.2, rfl⟩⟩
end SF
theorem s_fair {F : Nat} (hF : 4000 ≤ F) : st_fair F (INV F) := by
  intro sx sm h a1 a2 r1 r2
  have h0 := h
  obtain ⟨nb, nj, nm, q4, q5, q29, hD, hX⟩ := MD_of h
  obtain ⟨hB, hJ, hL, hS, hM, hFr, hT, hR, hH, hP⟩ := h
  have j4 : i32 (sm 0 4) := by have := hB.1; unfold i32; omega
  have x1 : sx 1 0 = sm 0 4 := hB.1.1
  have b0 := hB.1
  have sH : ∀ v : Int, INV F (put sx 0 13 v) (put (put (put sm 0 1 0) 0 0 0) 0 0 v) := fun v => ⟨hB, hJ, hL, rfl, hM, hFr, hT, hR, hH, hP⟩
  refine mk2 (T_bind (T_eq (hasB_eq r1 (by rw [x1]; exact j4)) ?_))
  by_cases c1 : 0 ≤ a1 ∧ a1 < sm 0 4
  · obtain ⟨b, hb⟩ : ∃ n : Nat, a1 = n := ⟨a1.toNat, by omega⟩
    subst hb
    have hbn : b < nb := by omega
    have hb24 : b < 24 := by omega
    refine T_no (fun q => b01_0.mp q (by rw [x1]; exact c1)) (T_bind (T_eq (isDayH_eq r2) ?_))
    have mm : ∀ {P : Int × St → Prop}, T ((f_M_isDay (put (put sm 0 1 0) 0 0 0) a2).bind fun q7 => if w32 q7.1 = 0 then (f_M_no q7.2 2).bind fun q9 => gd (w32 q9.1 = 0 ∨ w32 q9.1 = 1) (some (q9.1, q9.2)) else (f_M_known F q7.2 a2).bind fun q11 => (f_M_countOf F q11 b).bind fun q12 => if w32 q12.1 = 0 then (f_M_no q12.2 6).bind fun q14 => gd (w32 q14.1 = 0 ∨ w32 q14.1 = 1) (some (q14.1, q14.2)) else l_M_fair_59 F (fun s16 x1_17 => (f_M_fairOf F s16 x1_17).bind fun q18 => some (1, put (put q18 0 2 (q18 0 79)) 0 3 (put q18 0 2 (q18 0 79) 0 80))) F q12.2 b 0) P → T (f_M_fair F sm b a2) P := fun p => T_bind (T_eq (isB_eq r1 j4) (T_no (fun q => b01_0.mp q c1) p))
    by_cases c2 : 0 ≤ a2 ∧ a2 ≤ 999
    · obtain ⟨x2, m2, e1, e2, hK⟩ := known_both (F := F) (by omega) hD hX c2
      have hK0 := hK
      obtain ⟨k1, k2, k3, k4, k5, k6, k7, k8, k9, k10, k11, k12, k13⟩ := hK
      have s0 : m2 0 0 = 0 := by rw [k3 0 0 rfl]; rfl
      have hR2 := KNW_ref hK0
      have cl := fb_ct_le (hsOf (put (put sm 0 1 0) 0 0 0) a2 nm b) nj
      have n12 := k1.2.1
      refine T_no (fun q => b01_0.mp q c2) (T_bind (T_eq e1 ?_))
      have mm2 : ∀ {P : Int × St → Prop}, T (if w32 ((fb_ct (hsOf (put (put sm 0 1 0) 0 0 0) a2 nm b) nj : Nat) : Int) = 0 then (f_M_no m2 6).bind fun q14 => gd (w32 q14.1 = 0 ∨ w32 q14.1 = 1) (some (q14.1, q14.2)) else l_M_fair_59 F (fun s16 x1_17 => (f_M_fairOf F s16 x1_17).bind fun q18 => some (1, put (put q18 0 2 (q18 0 79)) 0 3 (put q18 0 2 (q18 0 79) 0 80))) F m2 b 0) P → T (f_M_fair F sm b a2) P := fun p => mm (T_bind (T_eq (isDayM_eq r2) (T_no (fun q => b01_0.mp q c2) (T_bind (T_eq e2 (T_bind (T_eq (countOf_eq k6 hbn (by omega)) p)))))))
      by_cases c3 : ∃ j, hsOf (put (put sm 0 1 0) 0 0 0) a2 nm b j = true
      · obtain ⟨j0, hj0⟩ := c3
        obtain ⟨z1, z2, z3, z4, z5, z6, z7⟩ := KNW_brd hK0 hj0
        have px := KNW_px hK0 (h := m2 26 j0) z3 z4
        have pm := KNW_pm hK0 (h := m2 26 j0) z3 z4
        have ct := Pq_ct hD.2.1 m2 (m2 26 j0)
        have ne : ¬ w32 ((fb_ct (hsOf (put (put sm 0 1 0) 0 0 0) a2 nm b) nj : Nat) : Int) = 0 := by
          have := fb_ct_pos.mpr ⟨j0, z1, hj0⟩
          rw [wnat (by omega)]; omega
        have kk : w32 (-1) = -1 := by decide
        refine T_bind (T_eq ((around_eq k7 hb24 z6 (by omega)).1 ⟨j0, hj0⟩) (T_no (by rw [wid (by omega) (by omega), kk]; omega) (T_bind (T_eq (great_eq px (by omega)) ?_))))
        have f59 := fun {k107 : St → Int → Option (Int × St)} {Q : Int × St → Prop} => fair_59 (F := F) hR2 pm hbn z5 (k107 := k107) (Q := Q) (by omega)
        by_cases c4 : 5 < fb_ct (Pq nj m2 (m2 26 j0)) 12
        · refine T_no (fun q => b01_0.mp q c4) (T_bind (T_some (T_gd gq0 (T_some (mm2 (T_no ne (f59.2 (by omega) ⟨j0, hj0⟩ ⟨rfl, ?_⟩)))))))
          refine KNW_inv h0 hK0 (fun c j z1 z2 => ?_) (fun c j z1 z2 => ?_) rfl
          · exact if_neg (fun z => z2 (by rw [z.1, z.2]; rfl))
          · exact if_neg (fun z => z2 (by rw [z.1, z.2]; rfl))
        · have bx := KNW_box hK0 (h := m2 26 j0) z3 z1 rfl (by omega)
          refine T_yes (b01_0.mpr c4) (T_bind (weigh_k bx (KNW_cls hK0) px (by omega) (fun t f1 g1 g2 => ?_)))
          have hC2 : CLS (hsOf (put (put sm 0 1 0) 0 0 0) a2 nm) (ptq (put (put sm 0 1 0) 0 0 0) a2 nm) t := CLS_cong (KNW_cls hK0) (fun j => f1 27 j rfl)
          refine T_bind (T_eq (rate_eq bx hC2 hj0 z7 (fun j e => ?_) (by omega)) ?_)
          · have pj : Pq nj m2 (m2 26 j0) j = true := Pq_iff.mpr ⟨(hsOf_in hD e).2, z5 j e⟩
            have bo := BX_of bx pj
            have gi := g1 _ bo.1
            rw [bo.2] at gi
            exact gi
          · refine T_bind (T_some (T_gd gq1 (T_some (mm2 (T_no ne (f59.1 (by omega) ?_))))))
            refine T_bind (T_mono (fairOf_eq bx hR2 pm hj0 z7 z5 hF) (fun u hu => T_some ⟨rfl, ?_⟩))
            obtain ⟨u1, u2, u3⟩ := hu
            refine INV_fr (sx := sx) (sm := sm) (fun c j z1 z2 z3 => ?_) (fun c j z1 z2 z3 => ?_) ?_ ⟨?_, ?_⟩ h0
            · show put (put (put t 40 0 _) 40 1 _) 0 13 0 c j = sx c j
              rw [put_g (c0 := 0) (j0 := 13) (c := c) (j := j) (fun z => z2 (by rw [z.1, z.2]; rfl)), put_g (c0 := 40) (j0 := 1) (c := c) (j := j) (fun z => z3 (by rw [z.1, z.2]; rfl)), put_g (c0 := 40) (j0 := 0) (c := c) (j := j) (fun z => z3 (by rw [z.1, z.2]; rfl)), f1 c j (KW_g z1), k2 c j (KX_g z1)]
            · show put (put u 0 2 _) 0 3 _ c j = sm c j
              rw [put_g (c0 := 0) (j0 := 3) (c := c) (j := j) (fun z => z3 (by rw [z.1, z.2]; rfl)), put_g (c0 := 0) (j0 := 2) (c := c) (j := j) (fun z => z3 (by rw [z.1, z.2]; rfl)), u1 c j (KFa_g z1), k3 c j (K256_g z1), put_g (c0 := 0) (j0 := 0) (c := c) (j := j) (fun z => z2 (by rw [z.1, z.2]; rfl)), put_g (c0 := 0) (j0 := 1) (c := c) (j := j) (fun z => z1 (by rw [z.1, z.2]; rfl))]
            · show (0 : Int) = u 0 0
              rw [u1 0 0 rfl, s0]
            · exact (congrArg w64 u2).symm
            · exact (congrArg w64 u3).symm
      · have ze : fb_ct (hsOf (put (put sm 0 1 0) 0 0 0) a2 nm b) nj = 0 := fb_ct_zero.mpr (fun k _ => by
          cases e : hsOf (put (put sm 0 1 0) 0 0 0) a2 nm b k with
          | false => rfl
          | true => exact absurd ⟨k, e⟩ c3)
        refine T_bind (T_eq ((around_eq k7 hb24 (h := 0) (fun j e => absurd ⟨j, e⟩ c3) (by omega)).2 c3) (T_yes rfl (T_bind (T_some (T_gd gq0 (T_some (mm2 ?_)))))))
        refine T_yes (by rw [ze]; decide) (T_bind (T_some (T_gd gq0 (T_some ⟨rfl, ?_⟩))))
        refine KNW_inv h0 hK0 (fun c j z1 z2 => ?_) (fun c j z1 z2 => ?_) rfl
        · exact if_neg (fun z => z2 (by rw [z.1, z.2]; rfl))
        · exact if_neg (fun z => z2 (by rw [z.1, z.2]; rfl))
    · refine T_yes (b01_0.mpr c2) (T_bind (T_some (T_gd gq0 (T_some (mm ?_)))))
      exact T_bind (T_eq (isDayM_eq r2) (T_yes (b01_0.mpr c2) (T_bind (T_some (T_gd gq0 (T_some ⟨rfl, sH 2⟩))))))
  · refine T_yes (b01_0.mpr (by rw [x1]; exact c1)) (T_bind (T_some (T_gd gq0 (T_some ?_))))
    exact T_bind (T_eq (isB_eq r1 j4) (T_yes (b01_0.mpr c1) (T_bind (T_some (T_gd gq0 (T_some ⟨rfl, sH 1⟩))))))
