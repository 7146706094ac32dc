def XLB (nb : Nat) (s : St) (b : Nat) : Bool := decide (b < nb) && bt (s 11 11) b
def XLJ (nj : Nat) (s : St) (j : Nat) : Bool := decide (j < nj) && bt (s 11 12) j
def xq (s : St) (i : Nat) : Nat := (s 16 i).toNat
def XKG (c j : Nat) : Bool := c == 16 || c == 17 || c == 18 || (c == 11 && (j == 11 || j == 12 || j == 13))
theorem reach_pl {nb nj : Nat} {s : St} {c sz : Nat} {v : Int} (hnb : nb ≤ 24) (hc : c < nb) (h13 : s 11 13 = sz) (hsz : sz < 24) (hq : ∀ i, i < sz → s 16 i = xq s i) : ∃ t, f_Plan_reach s c v = some t ∧ frs XKG s t ∧ (∀ b, XLB nb t b = (decide (b = c) || XLB nb s b)) ∧ (∀ j, XLJ nj t j = XLJ nj s j) ∧ (∀ x, t 18 x = s 18 x) ∧ (∀ x, t 17 x = if x = c then v else s 17 x) ∧ (∀ i, xq t i = if i = sz then c else xq s i) ∧ (∀ i, i < sz + 1 → t 16 i = xq t i) ∧ t 11 13 = ((sz + 1 : Nat) : Int) := by
  have e : f_Plan_reach s c v = some (put (put (put (put s 11 11 (orI (s 11 11) (shlI 1 c))) 17 c v) 16 sz c) 11 13 ((sz : Int) + 1)) := by
    unfold f_Plan_reach
    have i1 : inb (c : Int) 24 := inbN (by omega) (by decide)
    have i2 : inb (sz : Int) 24 := inbN hsz (by decide)
    rw [if_neg (by rw [h13, show w32 24 = 24 by decide, wnat (by omega)]; omega)]
    simp only [gd_yes i1, ix_nat (show c < 2147483648 by omega), put_c (show (11 : Nat) ≠ 17 by decide), put_c (show (11 : Nat) ≠ 16 by decide), put_j (show (13 : Nat) ≠ 11 by decide), h13, gd_yes i2, ix_nat (show sz < 2147483648 by omega)]
  have r11 : (put (put (put (put s 11 11 (orI (s 11 11) (shlI 1 c))) 17 c v) 16 sz c) 11 13 ((sz : Int) + 1)) 11 11 = orI (s 11 11) (shlI 1 c) := by
    rw [put_j (show (11 : Nat) ≠ 13 by decide), put_c (show (11 : Nat) ≠ 16 by decide), put_c (show (11 : Nat) ≠ 17 by decide), put_eq]
  have r12 : (put (put (put (put s 11 11 (orI (s 11 11) (shlI 1 c))) 17 c v) 16 sz c) 11 13 ((sz : Int) + 1)) 11 12 = s 11 12 := by
    rw [put_j (show (12 : Nat) ≠ 13 by decide), put_c (show (11 : Nat) ≠ 16 by decide), put_c (show (11 : Nat) ≠ 17 by decide), put_j (show (12 : Nat) ≠ 11 by decide)]
  have r16 : ∀ i, (put (put (put (put s 11 11 (orI (s 11 11) (shlI 1 c))) 17 c v) 16 sz c) 11 13 ((sz : Int) + 1)) 16 i = if i = sz then (c : Int) else s 16 i := by
    intro i
    rw [put_c (show (16 : Nat) ≠ 11 by decide), put_at, put_c (show (16 : Nat) ≠ 17 by decide), put_c (show (16 : Nat) ≠ 11 by decide)]
  have rq : ∀ i, xq (put (put (put (put s 11 11 (orI (s 11 11) (shlI 1 c))) 17 c v) 16 sz c) 11 13 ((sz : Int) + 1)) i = if i = sz then c else xq s i := by
    intro i
    unfold xq
    rw [r16]
    by_cases q : i = sz
    · rw [if_pos q, if_pos q, Int.toNat_natCast]
    · rw [if_neg q, if_neg q]
  refine ⟨_, e, frs_put (frs_put (frs_put (frs_put (frs_refl _ _) rfl) rfl) rfl) rfl, fun b => ?_, fun j => ?_, fun x => ?_, fun x => ?_, rq, fun i hi => ?_, ?_⟩
  · unfold XLB
    rw [r11]
    by_cases hb : b < nb
    · rw [bt_set _ (by omega) (by omega)]
      simp only [hb, decide_true, Bool.true_and]
      exact Bool.or_comm _ _
    · simp [hb, show ¬ b = c by omega]
  · unfold XLJ
    rw [r12]
  · rw [put_c (show (18 : Nat) ≠ 11 by decide), put_c (show (18 : Nat) ≠ 16 by decide), put_c (show (18 : Nat) ≠ 17 by decide), put_c (show (18 : Nat) ≠ 11 by decide)]
  · rw [put_c (show (17 : Nat) ≠ 11 by decide), put_c (show (17 : Nat) ≠ 16 by decide), put_at, put_c (show (17 : Nat) ≠ 11 by decide)]
  · rw [rq, r16]
    by_cases q : i = sz
    · rw [if_pos q, if_pos q]
    · rw [if_neg q, if_neg q]; exact hq i (by omega)
  · rw [put_eq]; omega
def rtX (nj L : Nat) (p : Pl) : Nat → Prop := fun b => rowc nj p b < L
def XGI (nb nj L : Nat) (mo : Nat → Nat) (fr p : Pl) (s0 : St) (sz k jj cc : Nat) (s : St) : Prop := frs XKG s0 s ∧ BF nb nj fr p (rtX nj L p) (XLB nb s) (XLJ nj s) (s 18) (s 17) (xq s) sz ∧ s 11 13 = sz ∧ (∀ i, i < sz → s 16 i = xq s i) ∧ (∀ b, b < nb → rtX nj L p b → XLB nb s b = true) ∧ (∀ j, XLJ nj s j = true → colc nb p j = mo j ∧ ∀ c, c < nb → (j = jj → c < cc) → p c j = true → fr c j = true → XLB nb s c = true) ∧ (∀ i, i < k → ∀ j, j < nj → fr (xq s i) j = true → p (xq s i) j = false → XLJ nj s j = true) ∧ k ≤ sz
theorem XC_fr {nb nj : Nat} {s t : St} (h : XC nb nj s) (f : frs XKG s t) : XC nb nj t ∧ pX nb nj t = pX nb nj s := by
  have e14 : ∀ b, t 14 b = s 14 b := fun b => f 14 b rfl
  have e15 : ∀ b, t 15 b = s 15 b := fun b => f 15 b rfl
  unfold XC
  refine ⟨?_, ?_⟩
  · simp only [e14, e15]; exact h
  · funext b j
    unfold pX
    rw [e14]
theorem XP_fr {nb nj L : Nat} {mo : Nat → Nat} {may : Pl} {s t : St} (h : XP nb nj L mo may s) (f : frs XKG s t) : XP nb nj L mo may t := by
  obtain ⟨d1, d2, d3, d4, d5, d6, d7, d8, d9⟩ := h
  refine ⟨d1, d2, d3, d4, (f 11 1 rfl).trans d5, (f 11 2 rfl).trans d6, (f 11 3 rfl).trans d7, fun j hj => ?_, fun b hb => ?_⟩
  · rw [f 12 j rfl]; exact d8 j hj
  · rw [f 13 b rfl]; exact d9 b hb
theorem start_eq {F nb nj L : Nat} {mo : Nat → Nat} {may fr : Pl} {s0 : St} (hP : XP nb nj L mo may s0) (hX : XC nb nj s0) (hF : 60 ≤ F) : T (f_Plan_startAtLacking F s0) (fun s => ∃ sz, XGI nb nj L mo fr (pX nb nj s0) s0 sz 0 32 0 s) := by
  obtain ⟨d1, d2, d3, d4, d5, d6, d7, d8, d9⟩ := id hP
  unfold f_Plan_startAtLacking
  have f0 : frs XKG s0 (put (put (put s0 11 11 0) 11 12 0) 11 13 0) := frs_put (frs_put (frs_put (frs_refl _ _) rfl) rfl) rfl
  have z11 : (put (put (put s0 11 11 0) 11 12 0) 11 13 0) 11 11 = 0 := by rw [put_j (show (11 : Nat) ≠ 13 by decide), put_j (show (11 : Nat) ≠ 12 by decide), put_eq]
  have z12 : (put (put (put s0 11 11 0) 11 12 0) 11 13 0) 11 12 = 0 := by rw [put_j (show (12 : Nat) ≠ 13 by decide), put_eq]
  refine loopG (l := fun n (s : St) x => l_Plan_startAtLacking_17 F (fun s4 => some s4) n s (x : Nat)) (N := nb) (I := fun B s => ∃ sz, frs XKG s0 s ∧ BF nb nj fr (pX nb nj s0) (rtX nj L (pX nb nj s0)) (XLB nb s) (XLJ nj s) (s 18) (s 17) (xq s) sz ∧ s 11 13 = sz ∧ (∀ i, i < sz → s 16 i = xq s i) ∧ (∀ b, b < B → b < nb → rtX nj L (pX nb nj s0) b → XLB nb s b = true) ∧ (∀ j, XLJ nj s j = false) ∧ ∀ b, XLB nb s b = true → b < B) (G := fun r => T r _) ?_ ?_ nb 0 F (put (put (put s0 11 11 0) 11 12 0) 11 13 0) (by omega) (by omega) ⟨0, f0, ⟨fun i h => absurd h (Nat.not_lt_zero i), fun b h => ?_, fun i i2 h => absurd h (Nat.not_lt_zero i), fun j h => ?_, fun i h => absurd h (Nat.not_lt_zero i)⟩, put_eq _ _ _ _, fun i h => absurd h (Nat.not_lt_zero i), fun b h => absurd h (Nat.not_lt_zero b), fun j => ?_, fun b h => ?_⟩
  · intro n B s hB hI next
    obtain ⟨sz, i1, i2, i3, i4, i5, i6, i7⟩ := hI
    show T (b_Plan_startAtLacking_17 F (l_Plan_startAtLacking_17 F (fun s4 => some s4) n) (fun s4 => some s4) s B) _
    unfold b_Plan_startAtLacking_17
    have hc := XC_fr hX i1
    refine T_no (by rw [(i1 11 1 rfl).trans d5, wnat (by omega), wnat (by omega)]; omega) (T_bind (T_eq (lacks_eq (XP_fr hP i1) hc.1 hB) ?_))
    rw [hc.2]
    refine T_if (fun c => ?_) (fun c => ?_)
    · have c := b01_0.mp c
      refine next s ⟨sz, i1, i2, i3, i4, fun b h1 h2 h3 => ?_, i6, fun b h => by have := i7 b h; omega⟩
      by_cases e : b = B
      · rw [e] at h3; exact absurd h3 c
      · exact i5 b (by omega) h2 h3
    · have c : rowc nj (pX nb nj s0) B < L := Decidable.not_not.mp (fun q => c (b01_0.mpr q))
      have nl : XLB nb s B = false := by
        cases e : XLB nb s B with
        | false => rfl
        | true => have := i7 B e; omega
      have hsz := BF_lt i2 hB nl
      obtain ⟨t, e1, e2, e3, e4, e5, e6, e7, e8, e9⟩ := reach_pl (nj := nj) (v := -1) d1 hB i3 (by omega) i4
      refine T_bind (T_eq e1 ?_)
      have hb2 : BF nb nj fr (pX nb nj s0) (rtX nj L (pX nb nj s0)) (XLB nb t) (XLJ nj t) (t 18) (t 17) (xq t) (sz + 1) := by
        have := BF_board (j := 0) i2 hB nl (.inr ⟨c, e6⟩) e3 e7
        exact BF_cong this (fun _ => rfl) e4 e5 (fun _ => rfl) (fun _ => rfl)
      refine next t ⟨sz + 1, frs_trans i1 e2, hb2, e9, e8, fun b h1 h2 h3 => ?_, fun j => by rw [e4]; exact i6 j, fun b h => ?_⟩
      · rw [e3]
        by_cases e : b = B
        · simp [e]
        · rw [i5 b (by omega) h2 h3]; simp
      · rw [e3] at h
        by_cases e : b = B
        · omega
        · simp only [e, decide_false, Bool.false_or] at h
          have := i7 b h
          omega
  · intro n s hI
    obtain ⟨sz, i1, i2, i3, i4, i5, i6, i7⟩ := hI
    show T (b_Plan_startAtLacking_17 F (l_Plan_startAtLacking_17 F (fun s4 => some s4) n) (fun s4 => some s4) s nb) _
    unfold b_Plan_startAtLacking_17
    refine T_yes (by rw [(i1 11 1 rfl).trans d5, wnat (by omega)]; omega) (T_some ⟨sz, i1, i2, i3, i4, fun b hb h => i5 b hb hb h, fun j h => ?_, fun i h => absurd h (Nat.not_lt_zero i), by omega⟩)
    rw [i6] at h; cases h
  · unfold XLB at h; rw [z11, bt_0] at h; simp at h
  · unfold XLJ at h; rw [z12, bt_0] at h; simp at h
  · unfold XLJ; rw [z12, bt_0]; simp
  · unfold XLB at h; rw [z11, bt_0] at h; simp at h
def frX (may : Pl) (OB OJ : Nat) : Pl := fun b j => may b j && opn OB OJ b j
theorem shown_eq {F nb nj L : Nat} {mo : Nat → Nat} {may : Pl} {OB OJ : Nat} {s0 : St} (hP : XP nb nj L mo may s0) (hX : XC nb nj s0) (h9 : s0 11 9 = OB) (h10 : s0 11 10 = OJ) (hOB : OB ≤ 24) (hOJ : OJ ≤ 12) (hmp : ∀ b j, b < nb → j < nj → pX nb nj s0 b j = true → may b j = true) {sz k jj : Nat} (hjj : jj < nj) {s : St} (hG : XGI nb nj L mo (frX may OB OJ) (pX nb nj s0) s0 sz k jj 0 s) (hl : XLJ nj s jj = true) (hF : 60 ≤ F) : T (f_Plan_reachShown F s jj) (fun t => ∃ sz2, XGI nb nj L mo (frX may OB OJ) (pX nb nj s0) s0 sz2 k 32 0 t ∧ sz ≤ sz2 ∧ (∀ i, i < sz → xq t i = xq s i) ∧ ∀ j, XLJ nj t j = XLJ nj s j) := by
  obtain ⟨d1, d2, d3, d4, d5, d6, d7, d8, d9⟩ := id hP
  have hG0 := hG
  obtain ⟨g1, g2, g3, g4, g5, g6, g7, g8⟩ := hG
  unfold f_Plan_reachShown
  refine T_gd (inbN (show jj < 12 by omega) (by decide)) ?_
  obtain ⟨ov, o1, o2⟩ := openB_eq (s := s) (j := jj) ((g1 11 9 rfl).trans h9) ((g1 11 10 rfl).trans h10) hOB hOJ (by omega)
  refine T_bind (T_eq o1 ?_)
  show T (l_Plan_reachShown_22 F (fun s3 => some s3) F s jj (andI (andI (s 15 (ix (jj : Int))) ov) (xorI (s 11 11) (-1))) 0) _
  rw [ix_nat (by omega)]
  obtain ⟨ways, hw⟩ : ∃ w, w = andI (andI (s 15 jj) ov) (xorI (s 11 11) (-1)) := ⟨_, rfl⟩
  rw [← hw]
  have hc := XC_fr hX g1
  have hbit : ∀ c, c < nb → bt ways c = (pX nb nj s0 c jj && (opn OB OJ c jj && !XLB nb s c)) := by
    intro c hcn
    rw [hw, bt_and, bt_and, bt_not _ (by omega), o2 c (by omega), hc.1.2.2 c jj hcn hjj, ← pX_in hcn hjj, hc.2]
    unfold XLB
    simp only [hcn, decide_true, Bool.true_and]
    exact Bool.and_assoc _ _ _
  -- what is wanted of a board c, once no way is left there
  have done : ∀ c, c < nb → bt ways c = false → pX nb nj s0 c jj = true → frX may OB OJ c jj = true → XLB nb s c = true := by
    intro c hcn h1 h2 h3
    rw [hbit c hcn, h2] at h1
    unfold frX at h3
    rw [hmp c jj hcn hjj h2] at h3
    simp only [Bool.true_and] at h1 h3
    rw [h3] at h1
    simpa using h1
  refine loopG (l := fun n (t : St) x => l_Plan_reachShown_22 F (fun s3 => some s3) n t jj ways (x : Nat)) (N := nb) (I := fun c t => ∃ sz2, XGI nb nj L mo (frX may OB OJ) (pX nb nj s0) s0 sz2 k jj c t ∧ sz ≤ sz2 ∧ (∀ i, i < sz → xq t i = xq s i) ∧ (∀ j, XLJ nj t j = XLJ nj s j) ∧ (∀ b, c ≤ b → XLB nb t b = XLB nb s b) ∧ ∀ b, XLB nb s b = true → XLB nb t b = true) (G := fun r => T r _) ?_ ?_ nb 0 F s (by omega) (by omega) ⟨sz, hG0, Nat.le_refl _, fun _ _ => rfl, fun _ => rfl, fun _ _ => rfl, fun _ h => h⟩
  · intro n c t hcn hI next
    obtain ⟨sz2, hG2, m1, m2, m3, m4, m5⟩ := hI
    obtain ⟨k1, k2, k3, k4, k5, k6, k7, k8⟩ := hG2
    have skip : (∀ b, c ≤ b → b < nb → (b = c → bt ways b = false) → True) → bt ways c = false → T (l_Plan_reachShown_22 F (fun s3 => some s3) n t jj ways ((c : Int) + 1)) (fun t => ∃ sz2, XGI nb nj L mo (frX may OB OJ) (pX nb nj s0) s0 sz2 k 32 0 t ∧ sz ≤ sz2 ∧ (∀ i, i < sz → xq t i = xq s i) ∧ ∀ j, XLJ nj t j = XLJ nj s j) := by
      intro _ hz
      refine next t ⟨sz2, ⟨k1, k2, k3, k4, k5, fun j hj => ⟨(k6 j hj).1, fun c2 h1 h2 h3 h4 => ?_⟩, k7, k8⟩, m1, m2, m3, fun b hb => m4 b (by omega), m5⟩
      by_cases e : j = jj ∧ c2 = c
      · rw [e.1, e.2] at h3 h4
        rw [e.2]
        exact m5 c (done c hcn hz h3 h4)
      · exact (k6 j hj).2 c2 h1 (fun e2 => by have := h2 e2; have : c2 ≠ c := fun z => e ⟨e2, z⟩; omega) h3 h4
    show T (b_Plan_reachShown_22 F (l_Plan_reachShown_22 F (fun s3 => some s3) n) (fun s3 => some s3) t jj ways c) _
    unfold b_Plan_reachShown_22
    refine T_no (by rw [(k1 11 1 rfl).trans d5, wnat (by omega), wnat (by omega)]; omega) (T_if (fun cz => ?_) (fun _ => ?_))
    · -- no way at all
      refine T_some ⟨sz2, ⟨k1, k2, k3, k4, k5, fun j hj => ⟨(k6 j hj).1, fun c2 h1 _ h3 h4 => ?_⟩, k7, k8⟩, m1, m2, m3⟩
      by_cases e : j = jj
      · rw [e] at h3 h4
        refine m5 c2 (done c2 h1 ?_ h3 h4)
        have ez : nv ways = nv 0 := nv_of_w32 (by rw [cz]; decide)
        unfold bt
        rw [ez]
        exact bt_0 c2
      · exact (k6 j hj).2 c2 h1 (fun e2 => absurd e2 e) h3 h4
    · rw [bitat ways (show c < 32 by omega), show w32 1 = 1 by decide, w_b01]
      by_cases cb : bt ways c = true
      · rw [if_pos (b01_of cb)]
        have hb := hbit c hcn
        rw [cb] at hb
        have hb2 := (Bool.and_eq_true _ _).mp hb.symm
        have hb3 := (Bool.and_eq_true _ _).mp hb2.2
        have nl : XLB nb t c = false := by rw [m4 c (Nat.le_refl c)]; simpa using hb3.2
        have hfr : frX may OB OJ c jj = true := by unfold frX; rw [hmp c jj hcn hjj hb2.1, hb3.1]; rfl
        have hsz := BF_lt k2 hcn nl
        obtain ⟨t2, e1, e2, e3, e4, e5, e6, e7, e8, e9⟩ := reach_pl (nj := nj) (v := (jj : Int)) d1 hcn k3 (by omega) k4
        refine T_bind (T_eq e1 ?_)
        have hl2 : XLJ nj t jj = true := by rw [m3]; exact hl
        have hbf : BF nb nj (frX may OB OJ) (pX nb nj s0) (rtX nj L (pX nb nj s0)) (XLB nb t2) (XLJ nj t2) (t2 18) (t2 17) (xq t2) (sz2 + 1) := by
          have := BF_board (j := jj) k2 hcn nl (.inl ⟨hl2, hb2.1, hfr, e6⟩) e3 e7
          exact BF_cong this (fun _ => rfl) e4 e5 (fun _ => rfl) (fun _ => rfl)
        have mono : ∀ b, XLB nb t b = true → XLB nb t2 b = true := fun b h => by rw [e3, h]; simp
        refine next t2 ⟨sz2 + 1, ⟨frs_trans k1 e2, hbf, e9, e8, fun b h1 h2 => mono b (k5 b h1 h2), fun j hj => ?_, fun i hi j hj h1 h2 => ?_, by omega⟩, by omega, fun i hi => ?_, fun j => by rw [e4]; exact m3 j, fun b hb => ?_, fun b h => mono b (m5 b h)⟩
        · rw [e4] at hj
          refine ⟨(k6 j hj).1, fun c2 h1 h2 h3 h4 => ?_⟩
          by_cases e : c2 = c
          · rw [e3]; simp [e]
          · exact mono c2 ((k6 j hj).2 c2 h1 (fun e2 => by have := h2 e2; omega) h3 h4)
        · rw [e7, if_neg (by omega)] at h1 h2
          rw [e4]
          exact k7 i hi j hj h1 h2
        · rw [e7, if_neg (by omega)]
          exact m2 i hi
        · rw [e3]
          simp only [show ¬ b = c by omega, decide_false, Bool.false_or]
          exact m4 b (by omega)
      · rw [if_neg (by rw [b01_not cb]; decide)]
        exact skip (fun _ _ _ _ => trivial) (by simpa using cb)
  · intro n t hI
    obtain ⟨sz2, hG2, m1, m2, m3, m4, m5⟩ := hI
    obtain ⟨k1, k2, k3, k4, k5, k6, k7, k8⟩ := hG2
    show T (b_Plan_reachShown_22 F (l_Plan_reachShown_22 F (fun s3 => some s3) n) (fun s3 => some s3) t jj ways nb) _
    unfold b_Plan_reachShown_22
    exact T_yes (by rw [(k1 11 1 rfl).trans d5, wnat (by omega)]; omega) (T_some ⟨sz2, ⟨k1, k2, k3, k4, k5, fun j hj => ⟨(k6 j hj).1, fun c2 h1 _ h3 h4 => (k6 j hj).2 c2 h1 (fun _ => h1) h3 h4⟩, k7, k8⟩, m1, m2, m3⟩)
