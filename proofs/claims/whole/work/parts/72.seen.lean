def KX (c j : Nat) : Bool := c == 26 || c == 27 || c == 28
def hsOf (m : St) (day : Int) (nm b j : Nat) : Bool := decide (b < 24) && (decide (j < 12) && decide (0 ≤ cS m day nm (12 * b + j)))
def KNW (nb nj nm : Nat) (day : Int) (x1 m1 x2 m2 : St) : Prop := MD nb nj nm m1 ∧ frs KX x1 x2 ∧ frs K256 m1 m2 ∧ (∀ i, i < 288 → m2 25 i = cS m1 day nm i) ∧ PX m1 (cS m1 day nm) x2 ∧ HC (hsOf m1 day nm) nb nj m2 ∧ HX (hsOf m1 day nm) x2 ∧ KD (hsOf m1 day nm) nj (fun j => m2 26 j) ∧ EQB (hsOf m1 day nm) (fun j => m2 26 j) ∧ KD (hsOf m1 day nm) 12 (fun j => x2 26 j) ∧ EQB (hsOf m1 day nm) (fun j => x2 26 j) ∧ (∀ j, j < nj → x2 26 j = m2 26 j) ∧ ∀ j, nj ≤ j → j < 12 → x2 26 j = -1
theorem hsOf_in {nb nj nm : Nat} {m : St} (hD : MD nb nj nm m) {day : Int} {b j : Nat} (h : hsOf m day nm b j = true) : b < nb ∧ j < nj := by
  unfold hsOf at h
  simp only [Bool.and_eq_true, decide_eq_true_eq] at h
  have z := cS_in hD h.2.1 h.2.2
  exact ⟨z.1, z.2.1⟩
theorem hsOf_f {m : St} {day : Int} {nm b j : Nat} (hb : b < 24) (hj : j < 12) : hsOf m day nm b j = false ↔ cS m day nm (12 * b + j) < 0 := by
  unfold hsOf
  simp only [hb, hj, decide_true, Bool.true_and, decide_eq_false_iff_not]
  omega
theorem frs_26 {s t : St} (h : frs K26 s t) : frs K256 s t := frs_sub h (fun c j e => by unfold K26 at e; unfold K256; rw [e]; simp)
theorem frs_25 {s t : St} (h : frs K25 s t) : frs K256 s t := frs_sub h (fun c j e => by unfold K25 at e; unfold K256; rw [e]; simp)
theorem knownM_eq {F nb nj nm : Nat} {m1 : St} (hD : MD nb nj nm m1) {day : Int} (hday : 0 ≤ day ∧ day ≤ 999) (hF : 300 ≤ F) : T (f_M_known F m1 day) (fun m2 => frs K256 m1 m2 ∧ (∀ i, i < 288 → m2 25 i = cS m1 day nm i) ∧ HC (hsOf m1 day nm) nb nj m2 ∧ KD (hsOf m1 day nm) nj (fun j => m2 26 j) ∧ EQB (hsOf m1 day nm) (fun j => m2 26 j)) := by
  have hD0 := hD
  obtain ⟨d1, d2, d3, d4, d5, d6, d7⟩ := hD
  unfold f_M_known
  refine known_2 (fun s1 f1 g1 => ?_) (by omega)
  refine known_24 hD0 hday (fun s2 f2 g2 => ?_) f1 g1 (by omega)
  have mk : ∀ t, frs K26 s2 t → HC (hsOf m1 day nm) nb nj t := by
    intro t ft
    refine ⟨d1, d2, ?_, ?_, fun b j h => hsOf_in hD0 h, fun b j hb hj => ?_⟩
    · rw [ft 0 4 rfl, f2 0 4 rfl, d4]
    · rw [ft 0 5 rfl, f2 0 5 rfl, d5]
    · rw [ft 25 _ rfl, g2 _ (by omega)]
      have r := cS_rng m1 day nm (12 * b + j)
      exact ⟨⟨by omega, by omega⟩, (hsOf_f (by omega) (by omega)).symm⟩
  have hC := mk s2 (frs_refl _ _)
  refine known_124 hC (fun s3 f3 g3 => ?_) (by omega)
  refine known_183 hC f3 ?_ (fun t ft kt et => T_some ⟨frs_trans (frs_25 f2) (frs_26 ft), fun i hi => ?_, mk t ft, kt, et⟩) (by omega)
  · intro j hj
    show (_ → 0 ≤ s3 26 j ∧ s3 26 j ≤ j ∧ mkd _ (s3 26 j).toNat ∧ ∀ f, CMP _ f → f (s3 26 j).toNat = f j) ∧ (_ → s3 26 j = -1)
    rcases g3 j hj with ⟨q1, q2⟩ | ⟨q1, q2⟩
    · rw [q2, Int.toNat_natCast]
      exact ⟨fun _ => ⟨by omega, Int.le_refl _, q1, fun f _ => rfl⟩, fun q => absurd q1 q⟩
    · exact ⟨fun q => absurd q q1, fun _ => q2⟩
  · rw [ft 25 i rfl]; exact g2 i hi
theorem lookBack_eq {F nb nj nm : Nat} {x1 m1 : St} (hD : MD nb nj nm m1) (hX : XD nm x1 m1) {day : Int} (hday : 0 ≤ day ∧ day ≤ 999) (hF : 300 ≤ F) : T (f_Known_lookBack F x1 day) (fun x2 => frs KX x1 x2 ∧ PX m1 (cS m1 day nm) x2 ∧ HX (hsOf m1 day nm) x2 ∧ KD (hsOf m1 day nm) 12 (fun j => x2 26 j) ∧ EQB (hsOf m1 day nm) (fun j => x2 26 j)) := by
  unfold f_Known_lookBack f_Known_takeLatest
  refine T_bind ?_
  refine take_2 (fun s1 f1 g1 => ?_) (by omega)
  refine take_24 hD hX hday (fun s2 f2 g2 => T_some ?_) f1 g1 (by omega)
  have mk : ∀ t, frs K26 s2 t → PX m1 (cS m1 day nm) t ∧ HX (hsOf m1 day nm) t := by
    intro t ft
    have p : PX m1 (cS m1 day nm) t := by
      intro b j hb hj
      rw [ft 27 _ rfl, ft 28 _ rfl]
      exact g2 b j hb hj
    refine ⟨p, fun b j h => ?_, fun b j hb hj => ?_⟩
    · have z := hsOf_in hD h
      have := hD.1
      have := hD.2.1
      omega
    · have z := p b j hb hj
      have r := cS_rng m1 day nm (12 * b + j)
      rw [hsOf_f hb hj]
      by_cases c : cS m1 day nm (12 * b + j) < 0
      · rw [z.1 c]
        exact ⟨⟨by decide, by decide⟩, fun _ => c, fun _ => rfl⟩
      · have w := hD.2.2.2.2.2.2 (cS m1 day nm (12 * b + j)).toNat (by omega)
        rw [(z.2 (by omega)).1]
        exact ⟨⟨by omega, by omega⟩, fun q => by omega, fun q => absurd q c⟩
  refine T_bind (T_mono (form_eq (F := F) (mk s2 (frs_refl _ _)).2 (by omega)) (fun t ht => T_some ?_))
  refine ⟨?_, (mk t ht.1).1, (mk t ht.1).2, ht.2.1, ht.2.2⟩
  refine frs_trans (frs_sub f2 (fun c j e => ?_)) (frs_sub ht.1 (fun c j e => ?_))
  · unfold K78 at e; unfold KX
    simp only [Bool.or_eq_true] at e ⊢
    rcases e with e | e <;> simp [e]
  · unfold K26 at e; unfold KX; rw [e]; simp
theorem MD_of {F : Nat} {sx sm : St} (hI : INV F sx sm) : ∃ nb nj nm : Nat, sm 0 4 = nb ∧ sm 0 5 = nj ∧ sm 0 29 = nm ∧ MD nb nj nm (put (put sm 0 1 0) 0 0 0) ∧ XD nm sx (put (put sm 0 1 0) 0 0 0) := by
  obtain ⟨hB, hJ, hL, hS, hM, hFr, hT, hR, hH, hP⟩ := hI
  obtain ⟨nb, hnb⟩ : ∃ n : Nat, sm 0 4 = n := ⟨(sm 0 4).toNat, by have := hB.1; omega⟩
  obtain ⟨nj, hnj⟩ : ∃ n : Nat, sm 0 5 = n := ⟨(sm 0 5).toNat, by have := hJ.1; omega⟩
  obtain ⟨nm, hnm⟩ : ∃ n : Nat, sm 0 29 = n := ⟨(sm 0 29).toNat, by have := hM.1; omega⟩
  have b0 := hB.1
  have j0 := hJ.1
  have m0 := hM.1
  refine ⟨nb, nj, nm, hnb, hnj, hnm, ⟨by omega, by omega, by omega, hnb, hnj, hnm, fun k hk => ?_⟩, ?_, fun k hk => ?_⟩
  · have z := hM.2 k (by omega)
    show (0 ≤ sm 20 k ∧ sm 20 k < nj) ∧ (0 ≤ sm 21 k ∧ sm 21 k < nb) ∧ (0 ≤ sm 22 k ∧ sm 22 k ≤ 100) ∧ (0 ≤ sm 23 k ∧ sm 23 k ≤ 999) ∧ (-1 ≤ sm 24 k ∧ sm 24 k ≤ 999)
    omega
  · omega
  · have z := hM.2 k (by omega)
    exact ⟨z.1.1, z.2.1.1, z.2.2.1.1, z.2.2.2.1.1, z.2.2.2.2.1⟩
theorem known_both {F : Nat} (hF : 300 ≤ F) {sx sm : St} {nb nj nm : Nat} (hD : MD nb nj nm (put (put sm 0 1 0) 0 0 0)) (hX : XD nm sx (put (put sm 0 1 0) 0 0 0)) {day : Int} (hday : 0 ≤ day ∧ day ≤ 999) : ∃ x2 m2, f_Known_lookBack F sx day = some x2 ∧ f_M_known F (put (put sm 0 1 0) 0 0 0) day = some m2 ∧ KNW nb nj nm day sx (put (put sm 0 1 0) 0 0 0) x2 m2 := by
  obtain ⟨x2, e1, a1, a2, a3, a4, a5⟩ := lookBack_eq hD hX hday hF
  obtain ⟨m2, e2, b1, b2, b3, b4, b5⟩ := knownM_eq hD hday hF
  refine ⟨x2, m2, e1, e2, hD, a1, b1, b2, a2, b3, a3, b4, b5, a4, a5, fun j hj => ?_, fun j h1 h2 => ?_⟩
  · exact KD_uniq (nj := nj) (H := fun j => x2 26 j) (fun k hk => a4 k (by have := hD.2.1; omega)) a5 b4 b5 hj
  · refine (a4 j h2).2 (fun ⟨b, hb⟩ => ?_)
    have := (hsOf_in hD hb).2
    omega
theorem KNW_inv {F nb nj nm : Nat} {sx sm x2 m2 : St} {day : Int} (hI : INV F sx sm) (hK : KNW nb nj nm day sx (put (put sm 0 1 0) 0 0 0) x2 m2) {sx3 sm3 : St} (hx : ∀ c j, gX c j ≠ 0 → gX c j ≠ 4 → sx3 c j = x2 c j) (hm : ∀ c j, gM c j ≠ 0 → gM c j ≠ 4 → sm3 c j = m2 c j) (hs : sx3 0 13 = sm3 0 0) : INV F sx3 sm3 := by
  refine INV_st (fun c j q1 q2 => ?_) (fun c j q1 q2 => ?_) hs hI
  · rw [hx c j q1 q2]
    refine hK.2.1 c j ?_
    cases e : KX c j with
    | false => rfl
    | true =>
      exfalso
      apply q1
      unfold KX at e
      simp only [Bool.or_eq_true, beq_iff_eq] at e
      rcases e with (e | e) | e <;> rw [e] <;> rfl
  · rw [hm c j q1 q2, hK.2.2.1 c j ?_]
    · unfold put
      rw [if_neg (fun z => q2 (by rw [z.1, z.2]; rfl)), if_neg (fun z => q1 (by rw [z.1, z.2]; rfl))]
    · cases e : K256 c j with
      | false => rfl
      | true =>
        exfalso
        apply q1
        unfold K256 at e
        simp only [Bool.or_eq_true, beq_iff_eq] at e
        rcases e with e | e <;> rw [e] <;> rfl
theorem countOf_eq {F nb nj : Nat} {hs : Nat → Nat → Bool} {s : St} (hC : HC hs nb nj s) {b : Nat} (hb : b < nb) (hF : 20 ≤ F) : f_M_countOf F s b = some (((fb_ct (hs b) nj : Nat) : Int), s) := by
  have hC0 := hC
  obtain ⟨d1, d2, d3, d4, d5, d6⟩ := hC
  unfold f_M_countOf
  refine loopG (l := fun n (v : Int) x => l_M_countOf_4 F (fun s1 x2_2 => some (x2_2, s1)) n s b v (x : Nat)) (N := nj) (I := fun j v => v = ((fb_ct (hs b) j : Nat) : Int)) (G := fun r => r = some (((fb_ct (hs b) nj : Nat) : Int), s)) ?_ ?_ nj 0 F 0 (by omega) (by omega) rfl
  · intro n j v hj hI next
    show b_M_countOf_4 F (l_M_countOf_4 F _ n) _ s b v j = _
    unfold b_M_countOf_4
    rw [if_neg (show ¬ w32 (s 0 5) ≤ w32 (j : Int) by rw [d4, wnat (by omega), wnat (by omega)]; omega), at_eq]
    show gd (inb ((12 * b + j : Nat) : Int) 288) (if w32 (s 25 (ix ((12 * b + j : Nat) : Int))) < 0 then l_M_countOf_4 F _ n s b (v + 0) ((j : Int) + 1) else l_M_countOf_4 F _ n s b (v + 1) ((j : Int) + 1)) = _
    rw [gd_yes (inbN (by omega) (by decide))]
    have hc := hs_cell hC0 (frs_refl _ _) hb hj
    cases e : hs b j with
    | false =>
      rw [if_pos (hc.mpr e)]
      refine next (v + 0) ?_
      rw [fb_ct_succ, e, hI]
      simp
    | true =>
      rw [if_neg (fun q => by have := hc.mp q; rw [e] at this; cases this)]
      refine next (v + 1) ?_
      rw [fb_ct_succ, e, hI]
      simp
  · intro n v hI
    show b_M_countOf_4 F (l_M_countOf_4 F _ n) _ s b v nj = _
    unfold b_M_countOf_4
    rw [if_pos (by rw [d4, wnat (by omega)]; omega), hI]
theorem marksOf_eq {F : Nat} {hs : Nat → Nat → Bool} {s : St} (hC : HX hs s) {b : Nat} (hb : b < 24) (hF : 20 ≤ F) : f_Known_marksOf F s b = some (((fb_ct (hs b) 12 : Nat) : Int), s) := by
  unfold f_Known_marksOf
  refine loopG (l := fun n (v : Int) x => l_Known_marksOf_4 F (fun s1 x2_2 => some (x2_2, s1)) n s b v (x : Nat)) (N := 12) (I := fun j v => v = ((fb_ct (hs b) j : Nat) : Int)) (G := fun r => r = some (((fb_ct (hs b) 12 : Nat) : Int), s)) ?_ ?_ 12 0 F 0 (by omega) (by omega) rfl
  · intro n j v hj hI next
    show b_Known_marksOf_4 F (l_Known_marksOf_4 F _ n) _ s b v j = _
    unfold b_Known_marksOf_4
    rw [if_neg (show ¬ w32 12 ≤ w32 (j : Int) by rw [show w32 12 = 12 by decide, wnat (by omega)]; omega), points_eq hb hj]
    show (if w32 (s 27 (24 * j + b)) = w32 (-1) then l_Known_marksOf_4 F _ n s b v ((j : Int) + 1) else l_Known_marksOf_4 F _ n s b (v + 1) ((j : Int) + 1)) = _
    have hc := hx_cell hC (frs_refl _ _) hb hj
    cases e : hs b j with
    | false =>
      rw [if_pos (hc.mpr e)]
      refine next v ?_
      rw [fb_ct_succ, e, hI]
      simp
    | true =>
      rw [if_neg (fun q => by have := hc.mp q; rw [e] at this; cases this)]
      refine next (v + 1) ?_
      rw [fb_ct_succ, e, hI]
      simp
  · intro n v hI
    show b_Known_marksOf_4 F (l_Known_marksOf_4 F _ n) _ s b v ((12 : Nat) : Int) = _
    unfold b_Known_marksOf_4
    rw [if_pos (by decide), hI]
theorem ct_tail {p : Nat → Bool} {n m : Nat} (h : n ≤ m) (hp : ∀ k, n ≤ k → p k = false) : fb_ct p m = fb_ct p n := by
  obtain ⟨d, rfl⟩ : ∃ d, m = n + d := ⟨m - n, by omega⟩
  rw [fb_ct_split, fb_ct_zero.mpr (fun k _ => hp (n + k) (by omega)), Nat.add_zero]
theorem s_seen {F : Nat} (hF : 300 ≤ F) : st_seen F (INV F) := by
  intro sx sm h a1 a2 r1 r2
  have h0 := h
  obtain ⟨nb, nj, nm, q4, q5, q29, hD, hX⟩ := MD_of h
  obtain ⟨hB, hJ, hL, hS, hM, hFr, hT, hR, hH, hP⟩ := h
  have j4 : i32 (sm 0 4) := by have := hB.1; unfold i32; omega
  have x1 : sx 1 0 = sm 0 4 := hB.1.1
  have b0 := hB.1
  have sH : ∀ v : Int, INV F (put sx 0 13 v) (put (put (put sm 0 1 0) 0 0 0) 0 0 v) := fun v => ⟨hB, hJ, hL, rfl, hM, hFr, hT, hR, hH, hP⟩
  refine mk2 (T_bind (T_eq (hasB_eq r1 (by rw [x1]; exact j4)) ?_))
  by_cases c1 : 0 ≤ a1 ∧ a1 < sm 0 4
  · obtain ⟨b, hb⟩ : ∃ n : Nat, a1 = n := ⟨a1.toNat, by omega⟩
    subst hb
    refine T_no (fun q => b01_0.mp q (by rw [x1]; exact c1)) (T_bind (T_eq (isDayH_eq r2) ?_))
    have mm : ∀ {P : Int × St → Prop}, T ((f_M_isDay (put (put sm 0 1 0) 0 0 0) a2).bind fun q6 => if w32 q6.1 = 0 then (f_M_refuse q6.2 2).bind fun q8 => some (q8.1, q8.2) else (f_M_known F q6.2 a2).bind fun q9 => (f_M_countOf F q9 b).bind fun q10 => some (q10.1, q10.2)) P → T (f_M_seen F sm b a2) P := fun p => T_bind (T_eq (isB_eq r1 j4) (T_no (fun q => b01_0.mp q c1) p))
    by_cases c2 : 0 ≤ a2 ∧ a2 ≤ 999
    · obtain ⟨x2, m2, e1, e2, hK⟩ := known_both hF hD hX c2
      have hK0 := hK
      obtain ⟨k1, k2, k3, k4, k5, k6, k7, k8⟩ := hK
      refine T_no (fun q => b01_0.mp q c2) (T_bind (T_eq e1 (T_bind (T_eq (marksOf_eq k7 (by omega) (by omega)) (T_bind (T_some (T_some (mm ?_))))))))
      refine T_bind (T_eq (isDayM_eq r2) (T_no (fun q => b01_0.mp q c2) (T_bind (T_eq e2 (T_bind (T_eq (countOf_eq k6 (by omega) (by omega)) (T_some ⟨?_, ?_⟩)))))))
      · exact congrArg (fun n : Nat => w32 (n : Int)) (ct_tail hD.2.1 (fun k hk => by
          cases e : hsOf (put (put sm 0 1 0) 0 0 0) a2 nm b k with
          | false => rfl
          | true => have := (hsOf_in hD e).2; omega))
      · refine KNW_inv h0 hK0 (fun c j z1 z2 => ?_) (fun c j z1 z2 => rfl) ?_
        · exact if_neg (fun z => z2 (by rw [z.1, z.2]; rfl))
        · show (0 : Int) = m2 0 0
          rw [k3 0 0 rfl]
          rfl
    · refine T_yes (b01_0.mpr c2) (T_bind (T_some (T_some (mm ?_))))
      exact T_bind (T_eq (isDayM_eq r2) (T_yes (b01_0.mpr c2) (T_bind (T_some (T_some ⟨rfl, sH 2⟩)))))
  · refine T_yes (b01_0.mpr (by rw [x1]; exact c1)) (T_bind (T_some (T_some ?_)))
    exact T_bind (T_eq (isB_eq r1 j4) (T_yes (b01_0.mpr c1) (T_bind (T_some (T_some ⟨rfl, sH 1⟩)))))
theorem s_heap {F : Nat} (hF : 300 ≤ F) : st_heap F (INV F) := by
  intro sx sm h a1 a2 r1 r2
  have h0 := h
  obtain ⟨nb, nj, nm, q4, q5, q29, hD, hX⟩ := MD_of h
  obtain ⟨hB, hJ, hL, hS, hM, hFr, hT, hR, hH, hP⟩ := h
  have j5 : i32 (sm 0 5) := by have := hJ.1; unfold i32; omega
  have x7 : sx 7 0 = sm 0 5 := hJ.1.1
  have b0 := hJ.1
  have sH : ∀ v : Int, INV F (put sx 0 13 v) (put (put (put sm 0 1 0) 0 0 0) 0 0 v) := fun v => ⟨hB, hJ, hL, rfl, hM, hFr, hT, hR, hH, hP⟩
  refine mk2 (T_bind (T_bind (T_eq (hasJ_eq r1 (by rw [x7]; exact j5)) ?_)))
  by_cases c1 : 0 ≤ a1 ∧ a1 < sm 0 5
  · obtain ⟨b, hb⟩ : ∃ n : Nat, a1 = n := ⟨a1.toNat, by omega⟩
    subst hb
    have ib : inb (b : Int) 12 := inbN (by omega) (by decide)
    have ixb : ix (b : Int) = b := ix_nat (by omega)
    refine T_no (fun q => b01_0.mp q (by rw [x7]; exact c1)) (T_bind (T_eq (isDayH_eq r2) ?_))
    have mm : ∀ {P : Int × St → Prop}, T ((f_M_isDay (put (put sm 0 1 0) 0 0 0) a2).bind fun q6 => if w32 q6.1 = 0 then (f_M_refuse q6.2 2).bind fun q8 => some (q8.1, q8.2) else (f_M_known F q6.2 a2).bind fun q9 => gd (inb b 12) (if 0 ≤ w32 (q9 26 (ix b)) then gd (inb b 12) (some (q9 26 (ix b), q9)) else (f_M_refuse q9 6).bind fun q12 => some (q12.1, q12.2))) P → T (f_M_heap F sm b a2) P := fun p => T_bind (T_eq (isJ_eq r1 j5) (T_no (fun q => b01_0.mp q c1) p))
    by_cases c2 : 0 ≤ a2 ∧ a2 ≤ 999
    · obtain ⟨x2, m2, e1, e2, hK⟩ := known_both hF hD hX c2
      have hK0 := hK
      obtain ⟨k1, k2, k3, k4, k5, k6, k7, k8, k9, k10, k11, k12, k13⟩ := hK
      have eH : x2 26 b = m2 26 b := k12 b (by omega)
      have rH : -1 ≤ m2 26 b ∧ m2 26 b < 12 := by
        by_cases hm : mkd (hsOf (put (put sm 0 1 0) 0 0 0) a2 nm) b
        · have z := (k8 b (by omega)).1 hm
          have z1 : 0 ≤ m2 26 b := z.1
          have z2 : m2 26 b ≤ b := z.2.1
          omega
        · have z : m2 26 b = -1 := (k8 b (by omega)).2 hm
          omega
      have wH : w32 (m2 26 b) = m2 26 b := wid (by omega) (by omega)
      have kk : w32 (-1) = -1 := by decide
      have s0 : m2 0 0 = 0 := by rw [k3 0 0 rfl]; rfl
      refine T_no (fun q => b01_0.mp q c2) (T_bind (T_eq e1 (T_gd ib ?_)))
      by_cases c3 : m2 26 b = -1
      · refine T_yes (show w32 (x2 26 (ix b)) = w32 (-1) by rw [ixb, eH, c3]) (T_some (T_no (show ¬ w32 6 = 0 by decide) (T_bind (T_some (T_some (mm ?_))))))
        refine T_bind (T_eq (isDayM_eq r2) (T_no (fun q => b01_0.mp q c2) (T_bind (T_eq e2 (T_gd ib (T_no (show ¬ 0 ≤ w32 (m2 26 (ix b)) by rw [ixb, wH]; omega) (T_bind (T_some (T_some ⟨rfl, ?_⟩)))))))))
        refine KNW_inv h0 hK0 (fun c j z1 z2 => ?_) (fun c j z1 z2 => ?_) rfl
        · exact if_neg (fun z => z2 (by rw [z.1, z.2]; rfl))
        · exact if_neg (fun z => z2 (by rw [z.1, z.2]; rfl))
      · refine T_no (show ¬ w32 (x2 26 (ix b)) = w32 (-1) by rw [ixb, eH, wH, kk]; exact c3) (T_some (T_yes (show w32 0 = 0 by decide) (T_gd ib (T_bind (T_some (T_some (mm ?_)))))))
        refine T_bind (T_eq (isDayM_eq r2) (T_no (fun q => b01_0.mp q c2) (T_bind (T_eq e2 (T_gd ib (T_yes (show 0 ≤ w32 (m2 26 (ix b)) by rw [ixb, wH]; omega) (T_gd ib (T_some ⟨?_, ?_⟩))))))))
        · show w32 (x2 26 (ix b)) = w32 (m2 26 (ix b))
          rw [ixb, eH]
        · refine KNW_inv h0 hK0 (fun c j z1 z2 => ?_) (fun c j z1 z2 => rfl) s0.symm
          exact if_neg (fun z => z2 (by rw [z.1, z.2]; rfl))
    · refine T_yes (b01_0.mpr c2) (T_some (T_no (show ¬ w32 2 = 0 by decide) (T_bind (T_some (T_some (mm ?_))))))
      exact T_bind (T_eq (isDayM_eq r2) (T_yes (b01_0.mpr c2) (T_bind (T_some (T_some ⟨rfl, sH 2⟩)))))
  · refine T_yes (b01_0.mpr (by rw [x7]; exact c1)) (T_some (T_no (show ¬ w32 1 = 0 by decide) (T_bind (T_some (T_some ?_)))))
    exact T_bind (T_eq (isJ_eq r1 j5) (T_yes (b01_0.mpr c1) (T_bind (T_some (T_some ⟨rfl, sH 1⟩)))))
