/-! hardness -/
def Pq (nj : Nat) (m : St) (h : Int) (j : Nat) : Bool := decide (j < nj) && decide (m 26 j = h)
def ptq (m : St) (day : Int) (nm b j : Nat) : Int := m 22 (cS m day nm (12 * b + j)).toNat
theorem Pq_iff {nj : Nat} {m : St} {h : Int} {j : Nat} : Pq nj m h j = true ↔ j < nj ∧ m 26 j = h := by
  unfold Pq
  simp only [Bool.and_eq_true, decide_eq_true_eq]
theorem hsOf_t {m : St} {day : Int} {nm b j : Nat} (h : hsOf m day nm b j = true) : b < 24 ∧ j < 12 ∧ 0 ≤ cS m day nm (12 * b + j) := by
  unfold hsOf at h
  simp only [Bool.and_eq_true, decide_eq_true_eq] at h
  exact h
section HD
variable {nb nj nm : Nat} {day : Int} {x1 m1 x2 m2 : St}
theorem KNW_rng (hK : KNW nb nj nm day x1 m1 x2 m2) {j : Nat} (hj : j < nj) : -1 ≤ m2 26 j ∧ m2 26 j < 12 := by
  obtain ⟨k1, k2, k3, k4, k5, k6, k7, k8, k9, k10, k11, k12, k13⟩ := hK
  have := k1.2.1
  by_cases hm : mkd (hsOf m1 day nm) j
  · have z := (k8 j hj).1 hm
    have z1 : 0 ≤ m2 26 j := z.1
    have z2 : m2 26 j ≤ j := z.2.1
    omega
  · have z : m2 26 j = -1 := (k8 j hj).2 hm
    omega
theorem KNW_box (hK : KNW nb nj nm day x1 m1 x2 m2) {h : Int} (h0 : 0 ≤ h) {j0 : Nat} (hj0 : j0 < nj) (e0 : m2 26 j0 = h) (h5 : fb_ct (Pq nj m2 h) 12 ≤ 5) : BOX nb nj (fb_ct (Pq nj m2 h) 12) (hsOf m1 day nm) (ptq m1 day nm) (Pq nj m2 h) := by
  obtain ⟨k1, k2, k3, k4, k5, k6, k7, k8, k9, k10, k11, k12, k13⟩ := hK
  have n12 := k1.2.1
  refine ⟨k1.1, k1.2.1, fun b j e => hsOf_in k1 e, fun b j e => ?_, fun j e => (Pq_iff.mp e).1, fun b j j2 e1 e2 => ?_, rfl, ?_, h5, fun f hf j j2 e1 e2 => ?_⟩
  · have z := hsOf_t e
    have r := cS_rng m1 day nm (12 * b + j)
    have y := k1.2.2.2.2.2.2 (cS m1 day nm (12 * b + j)).toNat (by omega)
    exact ⟨y.2.2.1.1, y.2.2.1.2⟩
  · have a3 := (hsOf_in k1 e1).2
    have b3 := (hsOf_in k1 e2).2
    have e : m2 26 j = m2 26 j2 := k9 b j j2 e1 e2
    unfold Pq
    rw [e]
    simp [a3, b3]
  · exact fb_ct_pos.mpr ⟨j0, by omega, Pq_iff.mpr ⟨hj0, e0⟩⟩
  · have key : ∀ j, Pq nj m2 h j = true → f j = f h.toNat := by
      intro j e
      have p := Pq_iff.mp e
      have hm : mkd (hsOf m1 day nm) j := by
        apply Classical.byContradiction
        intro c
        have z : m2 26 j = -1 := (k8 j p.1).2 c
        omega
      have z := ((k8 j p.1).1 hm).2.2.2 f hf
      rw [← z]
      show f (m2 26 j).toNat = _
      rw [p.2]
    rw [key j e1, key j2 e2]
theorem KNW_ref (hK : KNW nb nj nm day x1 m1 x2 m2) : REF nb nj (hsOf m1 day nm) (ptq m1 day nm) m2 := by
  obtain ⟨k1, k2, k3, k4, k5, k6, k7, k8⟩ := hK
  refine ⟨k6, fun b j e => ?_⟩
  have z := hsOf_t e
  have r := cS_rng m1 day nm (12 * b + j)
  have := k1.2.2.1
  rw [k4 _ (by omega), k3 22 _ rfl]
  exact ⟨z.2.2, by omega, rfl⟩
theorem KNW_cls (hK : KNW nb nj nm day x1 m1 x2 m2) : CLS (hsOf m1 day nm) (ptq m1 day nm) x2 := by
  obtain ⟨k1, k2, k3, k4, k5, k6, k7, k8⟩ := hK
  refine ⟨k7, fun b j e => ?_⟩
  have z := hsOf_t e
  exact ((k5 b j z.1 z.2.1).2 z.2.2).1
theorem KNW_pm (hK : KNW nb nj nm day x1 m1 x2 m2) {h : Int} (h0 : 0 ≤ h) (h1 : h < 12) : ∀ j, j < nj → (w32 (m2 26 j) = w32 h ↔ Pq nj m2 h j = true) := by
  intro j hj
  have r := KNW_rng hK hj
  rw [wid (by omega) (by omega), wid (by omega) (by omega), Pq_iff]
  exact ⟨fun e => ⟨hj, e⟩, fun e => e.2⟩
theorem KNW_px (hK : KNW nb nj nm day x1 m1 x2 m2) {h : Int} (h0 : 0 ≤ h) (h1 : h < 12) : ∀ j, j < 12 → (w32 (x2 26 j) = w32 h ↔ Pq nj m2 h j = true) := by
  intro j hj
  have hK0 := hK
  obtain ⟨k1, k2, k3, k4, k5, k6, k7, k8, k9, k10, k11, k12, k13⟩ := hK
  by_cases c : j < nj
  · rw [k12 j c]; exact KNW_pm hK0 h0 h1 j c
  · rw [k13 j (by omega) hj, show w32 (-1) = -1 by decide, wid (by omega) (by omega), Pq_iff]
    exact ⟨fun e => by omega, fun e => absurd e.1 c⟩
end HD
theorem great_eq {F : Nat} {s : St} {h : Int} {P : Nat → Bool} (hP : ∀ j, j < 12 → (w32 (s 26 j) = w32 h ↔ P j = true)) (hF : 20 ≤ F) : f_Known_isGreat F s h = some (b01 (5 < fb_ct P 12), s) := by
  unfold f_Known_isGreat
  refine loopG (l := fun m (v : Int) x => l_Known_isGreat_4 F (fun s1 x2_2 => if w32 x2_2 ≤ w32 5 then some (0, s1) else some (1, s1)) m s h v (x : Nat)) (N := 12) (I := fun j v => v = ((fb_ct P j : Nat) : Int)) (G := fun r => r = some (b01 (5 < fb_ct P 12), s)) ?_ ?_ 12 0 F 0 (by omega) (by omega) rfl
  · intro m j v hj hI next
    show b_Known_isGreat_4 F (l_Known_isGreat_4 F _ m) _ s h v j = _
    unfold b_Known_isGreat_4
    rw [if_neg (by rw [show w32 12 = 12 by decide, wnat (by omega)]; omega), gd_yes (inbN hj (by decide)), ix_nat (by omega)]
    by_cases c : P j = true
    · rw [if_pos ((hP j hj).mpr c)]
      refine next _ ?_
      rw [fb_ct_succ, if_pos c, hI]; omega
    · rw [if_neg (fun q => c ((hP j hj).mp q))]
      refine next _ ?_
      rw [fb_ct_succ, if_neg c, hI]; omega
  · intro m v hI
    show b_Known_isGreat_4 F (l_Known_isGreat_4 F _ m) _ s h v ((12 : Nat) : Int) = _
    unfold b_Known_isGreat_4
    have l := fb_ct_le P 12
    rw [if_pos (by decide), hI]
    show (if w32 ((fb_ct P 12 : Nat) : Int) ≤ w32 5 then some ((0 : Int), s) else some (1, s)) = _
    rw [show w32 5 = 5 by decide, wnat (by omega)]
    unfold b01
    by_cases c : 5 < fb_ct P 12
    · rw [if_pos c, if_neg (by omega)]
    · rw [if_neg c, if_pos (by omega)]
theorem size_eq {F nj : Nat} {s : St} {h : Int} {P : Nat → Bool} (hj : nj ≤ 12) (e5 : s 0 5 = nj) (hP : ∀ j, j < nj → (w32 (s 26 j) = w32 h ↔ P j = true)) (hF : 20 ≤ F) : f_M_sizeOf F s h = some (((fb_ct P nj : Nat) : Int), s) := by
  unfold f_M_sizeOf
  refine loopG (l := fun m (v : Int) x => l_M_sizeOf_4 F (fun s1 x2_2 => some (x2_2, s1)) m s h v (x : Nat)) (N := nj) (I := fun j v => v = ((fb_ct P j : Nat) : Int)) (G := fun r => r = some (((fb_ct P nj : Nat) : Int), s)) ?_ ?_ nj 0 F 0 (by omega) (by omega) rfl
  · intro m j v hj2 hI next
    show b_M_sizeOf_4 F (l_M_sizeOf_4 F _ m) _ s h v j = _
    unfold b_M_sizeOf_4
    rw [if_neg (by rw [e5, wnat (by omega), wnat (by omega)]; omega), gd_yes (inbN (by omega) (by decide)), ix_nat (by omega)]
    by_cases c : P j = true
    · rw [if_pos ((hP j hj2).mpr c)]
      refine next _ ?_
      rw [fb_ct_succ, if_pos c, hI]; omega
    · rw [if_neg (fun q => c ((hP j hj2).mp q))]
      refine next _ ?_
      rw [fb_ct_succ, if_neg c, hI]; omega
  · intro m v hI
    show b_M_sizeOf_4 F (l_M_sizeOf_4 F _ m) _ s h v nj = _
    unfold b_M_sizeOf_4
    rw [if_pos (by rw [e5]; exact Int.le_refl _), hI]
theorem Pq_ct {nj : Nat} (hj : nj ≤ 12) (m : St) (h : Int) : fb_ct (Pq nj m h) 12 = fb_ct (Pq nj m h) nj := ct_tail hj (fun k hk => by
  cases c : Pq nj m h k with
  | false => rfl
  | true => have := (Pq_iff.mp c).1; omega)
/-- the sign goes into the lower number -/
def gsg (a D : Int) : Int := if 0 ≤ D then ((Nat.gcd a.natAbs D.natAbs : Nat) : Int) else -((Nat.gcd a.natAbs D.natAbs : Nat) : Int)
theorem frac_up (a D : Int) : a.tdiv (gsg a D) = (if 0 ≤ D then a else -a).tdiv ((Nat.gcd (if 0 ≤ D then a else -a).natAbs ((D.natAbs : Int)).natAbs : Nat) : Int) := by
  unfold gsg
  by_cases c : 0 ≤ D
  · simp only [if_pos c, Int.natAbs_natCast]
  · simp only [if_neg c, Int.natAbs_natCast, Int.natAbs_neg, Int.tdiv_neg, Int.neg_tdiv]
theorem frac_lo (a D : Int) : D.tdiv (gsg a D) = ((D.natAbs : Int)).tdiv ((Nat.gcd (if 0 ≤ D then a else -a).natAbs ((D.natAbs : Int)).natAbs : Nat) : Int) := by
  unfold gsg
  by_cases c : 0 ≤ D
  · have e : (D.natAbs : Int) = D := by omega
    simp only [if_pos c, Int.natAbs_natCast, e]
  · have e : (D.natAbs : Int) = -D := by omega
    simp only [if_neg c, Int.natAbs_natCast, Int.natAbs_neg, Int.tdiv_neg, Int.neg_tdiv, e]
theorem gsg_R {a D : Int} (hD : R63 D) (h0 : D ≠ 0) : R63 (gsg a D) ∧ gsg a D ≠ 0 := by
  have hg : 0 < Nat.gcd a.natAbs D.natAbs := Nat.gcd_pos_of_pos_right _ (by omega)
  have hg2 : Nat.gcd a.natAbs D.natAbs ≤ D.natAbs := Nat.le_of_dvd (by omega) (Nat.gcd_dvd_right _ _)
  have := R63_abs.mp hD
  unfold gsg
  by_cases c : 0 ≤ D
  · rw [if_pos c]; exact ⟨R63_abs.mpr (by omega), by omega⟩
  · rw [if_neg c]; exact ⟨R63_abs.mpr (by omega), by omega⟩
theorem tells_eq {F : Nat} {s : St} {a D : Int} (ha : R63 a) (hD : R63 D) (h0 : D ≠ 0) (hF : 200 ≤ F) : f_M_tells F s a D = some (put (put s 0 2 (a.tdiv (gsg a D))) 0 3 (D.tdiv (gsg a D))) := by
  have g := gsg_R (a := a) hD h0
  have fin : ∀ x5 : Int, x5 = gsg a D → b_M_tells_18 F s a D x5 = some (put (put s 0 2 (a.tdiv (gsg a D))) 0 3 (D.tdiv (gsg a D))) := by
    intro x5 h5
    unfold b_M_tells_18
    rw [h5, gd_yes (by rw [w64_R g.1]; exact g.2), gd_yes (by rw [w64_R g.1]; exact g.2), divL_id ha g.1, divL_id hD g.1]
  unfold f_M_tells
  rw [commonM_eq ha hD hF]
  show (if w64 0 ≤ w64 D then b_M_tells_18 F s a D _ else b_M_tells_18 F s a D _) = _
  rw [w64_0, w64_R hD]
  by_cases c : 0 ≤ D
  · rw [if_pos c]; exact fin _ (by unfold gsg; rw [if_pos c])
  · rw [if_neg c]; exact fin _ (by unfold gsg; rw [if_neg c])
theorem hard_91 {F n : Nat} (hn : n ≤ 5) {s0 : St} (e39 : s0 0 39 = n) {mem : Nat → Nat} (hm : ∀ i, i < n → s0 27 i = ((mem i : Nat) : Int)) (ml : ∀ i, i < n → mem i < 12) {b ib : Nat} (hib : ib < n) (hmb : mem ib = b) (uq : ∀ i, i < n → mem i = b → i = ib) {U V : Int} (ht : f_M_tells F s0 (s0 31 ib) (s0 0 43) = some (put (put s0 0 2 U) 0 3 V)) (hF : 20 ≤ F) : l_M_hardness_91 F (fun s23 => some (1, s23)) F s0 b 0 = some (1, put (put s0 0 2 U) 0 3 V) := by
  have b12 : b < 12 := by rw [← hmb]; exact ml ib hib
  refine loopG (l := fun m (s : St) x => l_M_hardness_91 F (fun s23 => some (1, s23)) m s b (x : Nat)) (N := n) (I := fun x s => (x ≤ ib ∧ s = s0) ∨ (ib < x ∧ s = put (put s0 0 2 U) 0 3 V)) (G := fun r => r = some (1, put (put s0 0 2 U) 0 3 V)) ?_ ?_ n 0 F s0 (by omega) (by omega) (.inl ⟨Nat.zero_le _, rfl⟩)
  · intro m x s hx hI next
    have g39 : s 0 39 = n := by
      rcases hI with ⟨_, e⟩ | ⟨_, e⟩
      · rw [e]; exact e39
      · rw [e, put_j (by decide), put_j (by decide)]; exact e39
    have g27 : s 27 x = ((mem x : Nat) : Int) := by
      rcases hI with ⟨_, e⟩ | ⟨_, e⟩
      · rw [e]; exact hm x hx
      · rw [e, put_c (by decide), put_c (by decide)]; exact hm x hx
    have mx := ml x hx
    show b_M_hardness_91 F (l_M_hardness_91 F _ m) _ s b x = _
    unfold b_M_hardness_91
    rw [if_neg (by rw [g39, wnat (by omega), wnat (by omega)]; omega), gd_yes (inbN (by omega) (by decide)), ix_nat (show x < 2147483648 by omega), g27]
    by_cases c : mem x = b
    · have ex := uq x hx c
      rw [if_pos (by rw [c]), gd_yes (inbN (by omega) (by decide))]
      rcases hI with ⟨_, e⟩ | ⟨h, e⟩
      · rw [e]
        subst ex
        rw [ht]
        exact next _ (.inr ⟨by omega, rfl⟩)
      · omega
    · rw [if_neg (by rw [wnat (by omega), wnat (by omega)]; omega)]
      refine next s ?_
      rcases hI with ⟨h, e⟩ | ⟨h, e⟩
      · refine .inl ⟨?_, e⟩
        have : x ≠ ib := fun q => c (by rw [q]; exact hmb)
        omega
      · exact .inr ⟨by omega, e⟩
  · intro m s hI
    rcases hI with ⟨h, e⟩ | ⟨h, e⟩
    · omega
    · show b_M_hardness_91 F (l_M_hardness_91 F _ m) _ s b n = _
      unfold b_M_hardness_91
      rw [if_pos (by rw [e, put_j (by decide), put_j (by decide), e39]; exact Int.le_refl _), e]
/-- fraction and status aside -/
theorem INV_fr {F : Nat} {sx sm sx2 sm2 : St} (hx : ∀ c j, gX c j ≠ 0 → gX c j ≠ 4 → gX c j ≠ 6 → sx2 c j = sx c j) (hm : ∀ c j, gM c j ≠ 0 → gM c j ≠ 4 → gM c j ≠ 6 → sm2 c j = sm c j) (hs : sx2 0 13 = sm2 0 0) (hf : IF sx2 sm2) (h : INV F sx sm) : INV F sx2 sm2 := by
  obtain ⟨hB, hJ, hL, hS, hM, hF, hT, hR, hH, hP⟩ := h
  exact ⟨IB_cong (fun c j q => hx c j (by omega) (by omega) (by omega)) (fun c j q => hm c j (by omega) (by omega) (by omega)) hB, IJ_cong (fun c j q => hx c j (by omega) (by omega) (by omega)) (fun c j q => hm c j (by omega) (by omega) (by omega)) hJ, IL_cong (fun c j q => hx c j (by omega) (by omega) (by omega)) (fun c j q => hm c j (by omega) (by omega) (by omega)) hL, hs, IM_cong (hm _ _ (by decide) (by decide) (by decide)) (hm _ _ (by decide) (by decide) (by decide)) (fun c j q => hx c j (by omega) (by omega) (by omega)) (fun c j q => hm c j (by omega) (by omega) (by omega)) hM, hf, IT_cong (fun c j q => hx c j (by omega) (by omega) (by omega)) (fun c j q => hm c j (by omega) (by omega) (by omega)) hT, IR_cong (fun c j q => hx c j (by omega) (by omega) (by omega)) (fun c j q => hm c j (by omega) (by omega) (by omega)) hR, IH_cong (fun c j q => hx c j (by omega) (by omega) (by omega)) (fun c j q => hm c j (by omega) (by omega) (by omega)) hH, IP_cong (fun c j q => hx c j (by omega) (by omega) (by omega)) (fun c j q => hm c j (by omega) (by omega) (by omega)) hP⟩
theorem KX_g {c j : Nat} (h : gX c j ≠ 0) : KX c j = false := by
  cases e : KX c j with
  | false => rfl
  | true =>
    exfalso
    apply h
    unfold KX at e
    simp only [Bool.or_eq_true, beq_iff_eq] at e
    rcases e with (e | e) | e <;> rw [e] <;> rfl
theorem KW_g {c j : Nat} (h : gX c j ≠ 0) : KW c j = false := by
  cases e : KW c j with
  | false => rfl
  | true =>
    exfalso
    apply h
    unfold KW at e
    simp only [Bool.or_eq_true, beq_iff_eq, Bool.and_eq_true, decide_eq_true_eq] at e
    have : c = 29 ∨ c = 30 ∨ c = 31 ∨ c = 32 ∨ c = 34 ∨ c = 35 ∨ c = 36 ∨ c = 37 ∨ c = 38 ∨ c = 39 := by omega
    rcases this with e | e | e | e | e | e | e | e | e | e <;> rw [e] <;> rfl
theorem K256_g {c j : Nat} (h : gM c j ≠ 0) : K256 c j = false := by
  cases e : K256 c j with
  | false => rfl
  | true =>
    exfalso
    apply h
    unfold K256 at e
    simp only [Bool.or_eq_true, beq_iff_eq] at e
    rcases e with e | e <;> rw [e] <;> rfl
theorem KS_g {c j : Nat} (h : gM c j ≠ 0) : KS c j = false := by
  cases e : KS c j with
  | false => rfl
  | true =>
    exfalso
    apply h
    unfold KS at e
    simp only [Bool.or_eq_true, beq_iff_eq, Bool.and_eq_true] at e
    rcases e with ((((e | e) | e) | e) | e) | ⟨e, e2 | e2⟩
    · rw [e]; rfl
    · rw [e]; rfl
    · rw [e]; rfl
    · rw [e]; rfl
    · rw [e]; rfl
    · rw [e, e2]; rfl
    · rw [e, e2]; rfl
theorem put_g {s : St} {c0 j0 c j : Nat} {v : Int} (h : ¬ (c = c0 ∧ j = j0)) : put s c0 j0 v c j = s c j := if_neg h
/-- both sides, from the weighing on -/
theorem det_R {nb nj n : Nat} {hs : Nat → Nat → Bool} {pt : Nat → Nat → Int} {P : Nat → Bool} (hB : BOX nb nj n hs pt P) : R63 (DT (EE hs pt (nthq P 12) n (-1)) n n (segq n)) ∧ ∀ i : Nat, i < n → (DT (EE hs pt (nthq P 12) n i) n n (segq n)).natAbs ≤ 51597803520000000 ∧ R63 (DT (EE hs pt (nthq P 12) n i) n n (segq n)) := by
  have bd := EE_bd hB (col := -1) (c := 99) (fun q hq => ⟨fun e => by omega, fun e => by have := hB.2.2.2.2.2.2.2.2.1; omega⟩)
  refine ⟨R63_abs.mpr ?_, fun i hi => ?_⟩
  · have : (if 99 < n then 100 else 1) ≤ 100 := by split <;> decide
    have := Nat.mul_le_mul_left 515978035200000 this
    omega
  · have b2 := EE_bd hB (col := (i : Int)) (c := i) (fun q hq => ⟨fun e => by omega, fun e => by omega⟩)
    rw [if_pos hi] at b2
    exact ⟨by omega, R63_abs.mpr (by omega)⟩
theorem s_hardness {F : Nat} (hF : 4000 ≤ F) : st_hardness F (INV F) := by
  intro sx sm h a1 a2 r1 r2
  have h0 := h
  obtain ⟨nb, nj, nm, q4, q5, q29, hD, hX⟩ := MD_of h
  obtain ⟨hB, hJ, hL, hS, hM, hFr, hT, hR, hH, hP⟩ := h
  have j5 : i32 (sm 0 5) := by have := hJ.1; unfold i32; omega
  have x7 : sx 7 0 = sm 0 5 := hJ.1.1
  have b0 := hJ.1
  have sH : ∀ v : Int, INV F (put sx 0 13 v) (put (put (put sm 0 1 0) 0 0 0) 0 0 v) := fun v => ⟨hB, hJ, hL, rfl, hM, hFr, hT, hR, hH, hP⟩
  refine mk2 (T_bind (T_bind (T_eq (hasJ_eq r1 (by rw [x7]; exact j5)) ?_)))
  by_cases c1 : 0 ≤ a1 ∧ a1 < sm 0 5
  · obtain ⟨b, hb⟩ : ∃ n : Nat, a1 = n := ⟨a1.toNat, by omega⟩
    subst hb
    have ib : inb (b : Int) 12 := inbN (by omega) (by decide)
    have ixb : ix (b : Int) = b := ix_nat (by omega)
    refine T_no (fun q => b01_0.mp q (by rw [x7]; exact c1)) (T_bind (T_eq (isDayH_eq r2) ?_))
    have mm : ∀ {P : Int × St → Prop}, T ((f_M_isDay (put (put sm 0 1 0) 0 0 0) a2).bind fun q7 => if w32 q7.1 = 0 then (f_M_no q7.2 2).bind fun q9 => gd (w32 q9.1 = 0 ∨ w32 q9.1 = 1) (some (q9.1, q9.2)) else (f_M_known F q7.2 a2).bind fun q11 => gd (inb b 12) (if 0 ≤ w32 (q11 26 (ix b)) then gd (inb b 12) ((f_M_sizeOf F q11 (q11 26 (ix b))).bind fun q17 => if w32 q17.1 ≤ w32 5 then gd (inb b 12) ((f_M_solve F q17.2 (q17.2 26 (ix b))).bind fun q22 => l_M_hardness_91 F (fun s23 => some (1, s23)) F q22 b 0) else (f_M_no q17.2 9).bind fun q19 => gd (w32 q19.1 = 0 ∨ w32 q19.1 = 1) (some (q19.1, q19.2))) else (f_M_no q11 6).bind fun q14 => gd (w32 q14.1 = 0 ∨ w32 q14.1 = 1) (some (q14.1, q14.2)))) P → T (f_M_hardness F sm b a2) P := fun p => T_bind (T_eq (isJ_eq r1 j5) (T_no (fun q => b01_0.mp q c1) p))
    by_cases c2 : 0 ≤ a2 ∧ a2 ≤ 999
    · obtain ⟨x2, m2, e1, e2, hK⟩ := known_both (F := F) (by omega) hD hX c2
      have hK0 := hK
      obtain ⟨k1, k2, k3, k4, k5, k6, k7, k8, k9, k10, k11, k12, k13⟩ := hK
      have eH : x2 26 b = m2 26 b := k12 b (by omega)
      have rH := KNW_rng hK0 (show b < nj by omega)
      have wH : w32 (m2 26 b) = m2 26 b := wid (by omega) (by omega)
      have kk : w32 (-1) = -1 := by decide
      have s0 : m2 0 0 = 0 := by rw [k3 0 0 rfl]; rfl
      refine T_no (fun q => b01_0.mp q c2) (T_bind (T_eq e1 (T_gd ib ?_)))
      have mm2 : ∀ {P : Int × St → Prop}, T (if 0 ≤ w32 (m2 26 b) then gd (inb b 12) ((f_M_sizeOf F m2 (m2 26 b)).bind fun q17 => if w32 q17.1 ≤ w32 5 then gd (inb b 12) ((f_M_solve F q17.2 (q17.2 26 b)).bind fun q22 => l_M_hardness_91 F (fun s23 => some (1, s23)) F q22 b 0) else (f_M_no q17.2 9).bind fun q19 => gd (w32 q19.1 = 0 ∨ w32 q19.1 = 1) (some (q19.1, q19.2))) else (f_M_no m2 6).bind fun q14 => gd (w32 q14.1 = 0 ∨ w32 q14.1 = 1) (some (q14.1, q14.2))) P → T (f_M_hardness F sm b a2) P := fun p => by
        refine mm (T_bind (T_eq (isDayM_eq r2) (T_no (fun q => b01_0.mp q c2) (T_bind (T_eq e2 (T_gd ib ?_))))))
        rw [ixb]
        exact p
      rw [ixb, eH]
      by_cases c3 : m2 26 b = -1
      · refine T_yes (by rw [c3]) (T_some (T_no (show ¬ w32 6 = 0 by decide) (T_bind (T_some (T_gd gq0 (T_some (mm2 ?_)))))))
        refine T_no (by rw [wH]; omega) (T_bind (T_some (T_gd gq0 (T_some ⟨rfl, ?_⟩))))
        refine KNW_inv h0 hK0 (fun c j z1 z2 => ?_) (fun c j z1 z2 => ?_) rfl
        · exact if_neg (fun z => z2 (by rw [z.1, z.2]; rfl))
        · exact if_neg (fun z => z2 (by rw [z.1, z.2]; rfl))
      · have px := KNW_px hK0 (h := m2 26 b) (by omega) (by omega)
        have pm := KNW_pm hK0 (h := m2 26 b) (by omega) (by omega)
        have ct := Pq_ct hD.2.1 m2 (m2 26 b)
        have e5 : m2 0 5 = nj := k6.2.2.2.1
        refine T_no (by rw [wH, kk]; exact c3) (T_some (T_yes (show w32 0 = 0 by decide) (T_gd ib ?_)))
        dsimp only
        rw [eH]
        refine T_bind (T_eq (great_eq px (by omega)) ?_)
        have mm3 : ∀ {P : Int × St → Prop}, T (if w32 ((fb_ct (Pq nj m2 (m2 26 b)) nj : Nat) : Int) ≤ w32 5 then gd (inb b 12) ((f_M_solve F m2 (m2 26 b)).bind fun q22 => l_M_hardness_91 F (fun s23 => some (1, s23)) F q22 b 0) else (f_M_no m2 9).bind fun q19 => gd (w32 q19.1 = 0 ∨ w32 q19.1 = 1) (some (q19.1, q19.2))) P → T (f_M_hardness F sm b a2) P := fun p => mm2 (T_yes (by rw [wH]; omega) (T_gd ib (T_bind (T_eq (size_eq hD.2.1 e5 pm (by omega)) p))))
        have wc : w32 ((fb_ct (Pq nj m2 (m2 26 b)) nj : Nat) : Int) = ((fb_ct (Pq nj m2 (m2 26 b)) nj : Nat) : Int) := wnat (by have := fb_ct_le (Pq nj m2 (m2 26 b)) nj; have := hD.2.1; omega)
        have w5 : w32 5 = 5 := by decide
        by_cases c4 : 5 < fb_ct (Pq nj m2 (m2 26 b)) 12
        · refine T_no (fun q => b01_0.mp q c4) (T_bind (T_some (T_gd gq0 (T_some (mm3 ?_)))))
          refine T_no (by rw [wc, w5]; omega) (T_bind (T_some (T_gd gq0 (T_some ⟨rfl, ?_⟩))))
          refine KNW_inv h0 hK0 (fun c j z1 z2 => ?_) (fun c j z1 z2 => ?_) rfl
          · exact if_neg (fun z => z2 (by rw [z.1, z.2]; rfl))
          · exact if_neg (fun z => z2 (by rw [z.1, z.2]; rfl))
        · have bx := KNW_box hK0 (h := m2 26 b) (by omega) (show b < nj by omega) rfl (by omega)
          have dr := det_R bx
          have dn := EE_ne bx
          have bP : Pq nj m2 (m2 26 b) b = true := Pq_iff.mpr ⟨by omega, rfl⟩
          have bo := BX_of bx bP
          refine T_yes (b01_0.mpr c4) (T_bind (weigh_k bx (KNW_cls hK0) px (by omega) (fun t f1 g1 g2 => ?_)))
          refine T_gd ib (T_gd ib ?_)
          have gi := g1 _ bo.1
          rw [bo.2] at gi
          rw [gi.1, gi.2]
          have rs : R63 (if 0 ≤ DT (EE (hsOf (put (put sm 0 1 0) 0 0 0) a2 nm) (ptq (put (put sm 0 1 0) 0 0 0) a2 nm) (nthq (Pq nj m2 (m2 26 b)) 12) (fb_ct (Pq nj m2 (m2 26 b)) 12) (-1)) (fb_ct (Pq nj m2 (m2 26 b)) 12) (fb_ct (Pq nj m2 (m2 26 b)) 12) (segq (fb_ct (Pq nj m2 (m2 26 b)) 12)) then DT (EE (hsOf (put (put sm 0 1 0) 0 0 0) a2 nm) (ptq (put (put sm 0 1 0) 0 0 0) a2 nm) (nthq (Pq nj m2 (m2 26 b)) 12) (fb_ct (Pq nj m2 (m2 26 b)) 12) ((fb_ct (Pq nj m2 (m2 26 b)) b : Nat) : Int)) (fb_ct (Pq nj m2 (m2 26 b)) 12) (fb_ct (Pq nj m2 (m2 26 b)) 12) (segq (fb_ct (Pq nj m2 (m2 26 b)) 12)) else - DT (EE (hsOf (put (put sm 0 1 0) 0 0 0) a2 nm) (ptq (put (put sm 0 1 0) 0 0 0) a2 nm) (nthq (Pq nj m2 (m2 26 b)) 12) (fb_ct (Pq nj m2 (m2 26 b)) 12) ((fb_ct (Pq nj m2 (m2 26 b)) b : Nat) : Int)) (fb_ct (Pq nj m2 (m2 26 b)) 12) (fb_ct (Pq nj m2 (m2 26 b)) 12) (segq (fb_ct (Pq nj m2 (m2 26 b)) 12))) := by
            have z := dr.2 _ bo.1
            refine R63_abs.mpr ?_
            have y := z.1
            split
            · omega
            · rw [Int.natAbs_neg]; omega
          refine T_bind (T_eq (become_eq rs (RNt (R63_abs.mp dr.1)) (by omega) (by omega)) ?_)
          refine T_bind (T_some (T_gd gq1 (T_some (mm3 ?_))))
          refine T_yes (by rw [wc, w5]; omega) (T_gd ib (T_bind (T_mono (solve_eq bx (KNW_ref hK0) pm hF) (fun u hu => ?_))))
          obtain ⟨u1, u2, u3, u4, u5⟩ := hu
          refine T_eq (hard_91 (n := fb_ct (Pq nj m2 (m2 26 b)) 12) (by omega) u2 u3 (fun i hi => (BX_mem bx hi).2.1) bo.1 bo.2 (fun i hi e => by rw [← (BX_mem bx hi).2.2.2, e]) (tells_eq (by rw [u5 _ bo.1]; exact (dr.2 _ bo.1).2) (by rw [u4]; exact dr.1) (by rw [u4]; exact dn) (by omega)) (by omega)) ⟨rfl, ?_⟩
          refine INV_fr (sx := sx) (sm := sm) (fun c j z1 z2 z3 => ?_) (fun c j z1 z2 z3 => ?_) ?_ ⟨?_, ?_⟩ h0
          · show put (put (put t 40 0 _) 40 1 _) 0 13 0 c j = sx c j
            rw [put_g (c0 := 0) (j0 := 13) (c := c) (j := j) (fun z => z2 (by rw [z.1, z.2]; rfl)), put_g (c0 := 40) (j0 := 1) (c := c) (j := j) (fun z => z3 (by rw [z.1, z.2]; rfl)), put_g (c0 := 40) (j0 := 0) (c := c) (j := j) (fun z => z3 (by rw [z.1, z.2]; rfl)), f1 c j (KW_g z1), k2 c j (KX_g z1)]
          · show put (put u 0 2 _) 0 3 _ c j = sm c j
            rw [put_g (c0 := 0) (j0 := 3) (c := c) (j := j) (fun z => z3 (by rw [z.1, z.2]; rfl)), put_g (c0 := 0) (j0 := 2) (c := c) (j := j) (fun z => z3 (by rw [z.1, z.2]; rfl)), u1 c j (KS_g z1), k3 c j (K256_g z1), put_g (c0 := 0) (j0 := 0) (c := c) (j := j) (fun z => z2 (by rw [z.1, z.2]; rfl)), put_g (c0 := 0) (j0 := 1) (c := c) (j := j) (fun z => z1 (by rw [z.1, z.2]; rfl))]
          · show (0 : Int) = u 0 0
            rw [u1 0 0 rfl, s0]
          · have z := frac_up (u 31 (fb_ct (Pq nj m2 (m2 26 b)) b)) (u 0 43)
            have y := (congrArg w64 z).symm
            rw [u4, u5 _ bo.1] at y
            have w : w64 (put (put u 0 2 ((u 31 (fb_ct (Pq nj m2 (m2 26 b)) b)).tdiv (gsg (u 31 (fb_ct (Pq nj m2 (m2 26 b)) b)) (u 0 43)))) 0 3 ((u 0 43).tdiv (gsg (u 31 (fb_ct (Pq nj m2 (m2 26 b)) b)) (u 0 43))) 0 2) = w64 ((u 31 (fb_ct (Pq nj m2 (m2 26 b)) b)).tdiv (gsg (u 31 (fb_ct (Pq nj m2 (m2 26 b)) b)) (u 0 43))) := rfl
            refine Eq.trans ?_ w.symm
            rw [u4, u5 _ bo.1]
            exact y
          · have y := (congrArg w64 (frac_lo (u 31 (fb_ct (Pq nj m2 (m2 26 b)) b)) (u 0 43))).symm
            rw [u4, u5 _ bo.1] at y
            have w : w64 (put (put u 0 2 ((u 31 (fb_ct (Pq nj m2 (m2 26 b)) b)).tdiv (gsg (u 31 (fb_ct (Pq nj m2 (m2 26 b)) b)) (u 0 43)))) 0 3 ((u 0 43).tdiv (gsg (u 31 (fb_ct (Pq nj m2 (m2 26 b)) b)) (u 0 43))) 0 3) = w64 ((u 0 43).tdiv (gsg (u 31 (fb_ct (Pq nj m2 (m2 26 b)) b)) (u 0 43))) := rfl
            refine Eq.trans ?_ w.symm
            rw [u4, u5 _ bo.1]
            exact y
    · refine T_yes (b01_0.mpr c2) (T_some (T_no (show ¬ w32 2 = 0 by decide) (T_bind (T_some (T_gd gq0 (T_some (mm ?_)))))))
      exact T_bind (T_eq (isDayM_eq r2) (T_yes (b01_0.mpr c2) (T_bind (T_some (T_gd gq0 (T_some ⟨rfl, sH 2⟩))))))
  · refine T_yes (b01_0.mpr (by rw [x7]; exact c1)) (T_some (T_no (show ¬ w32 1 = 0 by decide) (T_bind (T_some (T_gd gq0 (T_some ?_))))))
    exact T_bind (T_eq (isJ_eq r1 j5) (T_yes (b01_0.mpr c1) (T_bind (T_some (T_gd gq0 (T_some ⟨rfl, sH 1⟩))))))
