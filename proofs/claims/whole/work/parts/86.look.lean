/-- what reachRoom leaves -/
def RRP (nb nj L : Nat) (mo : Nat → Nat) (fr p : Pl) (s0 : St) (q : Int × St) : Prop := frs XKG s0 q.2 ∧ ∃ sz, BF nb nj fr p (rtX nj L p) (XLB nb q.2) (XLJ nj q.2) (q.2 18) (q.2 17) (xq q.2) sz ∧ ((q.1 = -1 ∧ CL nb nj fr mo p (XLB nb q.2) (XLJ nj q.2) ∧ ∀ b, b < nb → rtX nj L p b → XLB nb q.2 b = true) ∨ ∃ last : Nat, q.1 = last ∧ last < nj ∧ XLJ nj q.2 last = true ∧ colc nb p last < mo last)
theorem room_59 {F nb nj L : Nat} {mo : Nat → Nat} {may : Pl} {OB OJ : Nat} {s0 : St} (hP : XP nb nj L mo may s0) (hX : XC nb nj s0) (h9 : s0 11 9 = OB) (h10 : s0 11 10 = OJ) (hOB : OB ≤ 24) (hOJ : OJ ≤ 12) (hmp : ∀ b j, b < nb → j < nj → pX nb nj s0 b j = true → may b j = true) (hcol : ∀ j, j < nj → colc nb (pX nb nj s0) j ≤ mo j) {k : Nat} {k6 k127 : St → Int → Option (Int × St)} (hk : ∀ t sz2, XGI nb nj L mo (frX may OB OJ) (pX nb nj s0) s0 sz2 (k + 1) 32 0 t → T (k127 t (k : Nat)) (RRP nb nj L mo (frX may OB OJ) (pX nb nj s0) s0)) {s : St} {sz : Nat} (hG : XGI nb nj L mo (frX may OB OJ) (pX nb nj s0) s0 sz k 32 0 s) (hks : k < sz) {ways : Int} (hw : ∀ j, j < nj → bt ways j = (frX may OB OJ (xq s k) j && (!pX nb nj s0 (xq s k) j && !XLJ nj s j))) (hF : 60 ≤ F) : T (l_Plan_reachRoom_59 F k6 k127 F s (k : Nat) (xq s k : Nat) ways 0) (RRP nb nj L mo (frX may OB OJ) (pX nb nj s0) s0) := by
  obtain ⟨d1, d2, d3, d4, d5, d6, d7, d8, d9⟩ := id hP
  obtain ⟨b, hb⟩ : ∃ b, b = xq s k := ⟨_, rfl⟩
  rw [← hb] at hw ⊢
  have done : ∀ j, j < nj → bt ways j = false → frX may OB OJ b j = true → pX nb nj s0 b j = false → XLJ nj s j = true := by
    intro j hj h1 h2 h3
    rw [hw j hj, h2, h3] at h1
    simpa using h1
  refine loopG (l := fun n (t : St) x => l_Plan_reachRoom_59 F k6 k127 n t (k : Nat) (b : Nat) ways (x : Nat)) (N := nj) (I := fun j t => ∃ sz2, XGI nb nj L mo (frX may OB OJ) (pX nb nj s0) s0 sz2 k 32 0 t ∧ k < sz2 ∧ xq t k = b ∧ (∀ j2, j ≤ j2 → XLJ nj t j2 = XLJ nj s j2) ∧ (∀ j2, XLJ nj s j2 = true → XLJ nj t j2 = true) ∧ ∀ j2, j2 < j → frX may OB OJ b j2 = true → pX nb nj s0 b j2 = false → XLJ nj t j2 = true) (G := fun r => T r (RRP nb nj L mo (frX may OB OJ) (pX nb nj s0) s0)) ?_ ?_ nj 0 F s (by omega) (by omega) ⟨sz, hG, hks, hb.symm, fun _ _ => rfl, fun _ h => h, fun j2 h => absurd h (Nat.not_lt_zero j2)⟩
  · intro n j t hj hI next
    obtain ⟨sz2, hG2, m1, m2, m3, m4, m5⟩ := hI
    have hG3 := hG2
    obtain ⟨g1, g2, g3, g4, g5, g6, g7, g8⟩ := hG2
    have hbn : b < nb := by rw [← m2]; exact (g2.1 k m1).1
    have closeb : ∀ (t2 : St) (sz3 : Nat), XGI nb nj L mo (frX may OB OJ) (pX nb nj s0) s0 sz3 k 32 0 t2 → k < sz3 → xq t2 k = b → (∀ j2, j2 < nj → frX may OB OJ b j2 = true → pX nb nj s0 b j2 = false → XLJ nj t2 j2 = true) → XGI nb nj L mo (frX may OB OJ) (pX nb nj s0) s0 sz3 (k + 1) 32 0 t2 := by
      intro t2 sz3 a a1 a2 a3
      obtain ⟨b1, b2, b3, b4, b5, b6, b7, b8⟩ := a
      refine ⟨b1, b2, b3, b4, b5, b6, fun i hi j2 hj2 h1 h2 => ?_, a1⟩
      by_cases e : i = k
      · rw [e, a2] at h1 h2; exact a3 j2 hj2 h1 h2
      · exact b7 i (by omega) j2 hj2 h1 h2
    show T (b_Plan_reachRoom_59 F (l_Plan_reachRoom_59 F k6 k127 n) k6 k127 t (k : Nat) (b : Nat) ways j) _
    unfold b_Plan_reachRoom_59
    refine T_no (by rw [(g1 11 2 rfl).trans d6, wnat (by omega), wnat (by omega)]; omega) (T_if (fun cz => ?_) (fun _ => ?_))
    · refine hk t sz2 (closeb t sz2 hG3 m1 m2 (fun j2 hj2 h1 h2 => m4 j2 (done j2 hj2 ?_ h1 h2)))
      have ez : nv ways = nv 0 := nv_of_w32 (by rw [cz]; decide)
      unfold bt
      rw [ez]
      exact bt_0 j2
    · rw [bitat ways (show j < 32 by omega), show w32 1 = 1 by decide, w_b01]
      by_cases cb : bt ways j = true
      · rw [if_pos (b01_of cb)]
        have hb1 := hw j hj
        rw [cb] at hb1
        have hb2 := (Bool.and_eq_true _ _).mp hb1.symm
        have hb3 := (Bool.and_eq_true _ _).mp hb2.2
        have hfr := hb2.1
        have hp : pX nb nj s0 b j = false := by simpa using hb3.1
        have nl : XLJ nj t j = false := by rw [m3 j (Nat.le_refl j)]; simpa using hb3.2
        have ij : inb (j : Int) 12 := inbN (show j < 12 by omega) (by decide)
        show T (gd (inb (j : Int) 12) ((f_Plan_hasRoom (put (put t 11 12 (orI (t 11 12) (shlI 1 j))) 18 (ix (j : Int)) b) j).bind fun q7 => if w32 q7.1 = 0 then (f_Plan_reachShown F q7.2 j).bind fun q9 => l_Plan_reachRoom_59 F k6 k127 n q9 (k : Nat) (b : Nat) ways ((j : Int) + 1) else some ((j : Int), q7.2))) _
        rw [ix_nat (by omega)]
        refine T_gd ij ?_
        obtain ⟨t6, ht6⟩ : ∃ t6, t6 = put (put t 11 12 (orI (t 11 12) (shlI 1 j))) 18 j b := ⟨_, rfl⟩
        rw [← ht6]
        have e12 : t6 11 12 = orI (t 11 12) (shlI 1 j) := by rw [ht6, put_c (show (11 : Nat) ≠ 18 by decide), put_eq]
        have e11 : t6 11 11 = t 11 11 := by rw [ht6, put_c (show (11 : Nat) ≠ 18 by decide), put_j (show (11 : Nat) ≠ 12 by decide)]
        have e13 : t6 11 13 = t 11 13 := by rw [ht6, put_c (show (11 : Nat) ≠ 18 by decide), put_j (show (13 : Nat) ≠ 12 by decide)]
        have e16 : ∀ i, t6 16 i = t 16 i := fun i => by rw [ht6, put_c (show (16 : Nat) ≠ 18 by decide), put_c (show (16 : Nat) ≠ 11 by decide)]
        have e17 : ∀ i, t6 17 i = t 17 i := fun i => by rw [ht6, put_c (show (17 : Nat) ≠ 18 by decide), put_c (show (17 : Nat) ≠ 11 by decide)]
        have e18 : ∀ i, t6 18 i = if i = j then (b : Int) else t 18 i := fun i => by rw [ht6, put_at, put_c (show (18 : Nat) ≠ 11 by decide)]
        have f6 : frs XKG s0 t6 := by rw [ht6]; exact frs_put (frs_put g1 rfl) rfl
        clear ht6
        have hLJ : ∀ x, XLJ nj t6 x = (decide (x = j) || XLJ nj t x) := by
          intro x
          unfold XLJ
          rw [e12]
          by_cases hx : x < nj
          · rw [bt_set _ (by omega) (by omega)]
            simp only [hx, decide_true, Bool.true_and]
            exact Bool.or_comm _ _
          · simp [hx, show ¬ x = j by omega]
        have hLB : ∀ x, XLB nb t6 x = XLB nb t x := fun x => by unfold XLB; rw [e11]
        have hq6 : ∀ i, xq t6 i = xq t i := fun i => by unfold xq; rw [e16]
        have hB6 : BF nb nj (frX may OB OJ) (pX nb nj s0) (rtX nj L (pX nb nj s0)) (XLB nb t6) (XLJ nj t6) (t6 18) (t6 17) (xq t6) sz2 := by
          have := BF_judge (k := k) g2 m1 hj nl (by rw [m2]; exact hfr) (by rw [m2]; exact hp) hLJ (by2 := t6 18) (fun x => by rw [e18, m2])
          exact BF_cong this hLB (fun _ => rfl) (fun _ => rfl) e17 hq6
        have hc6 := XC_fr hX f6
        refine T_bind (T_eq (hasRoom_eq (XP_fr hP f6) hc6.1 hj) ?_)
        rw [hc6.2]
        refine T_if (fun c => ?_) (fun c => ?_)
        · have c := b01_0.mp c
          have hfull : colc nb (pX nb nj s0) j = mo j := by have := hcol j hj; omega
          have hG6 : XGI nb nj L mo (frX may OB OJ) (pX nb nj s0) s0 sz2 k j 0 t6 := by
            refine ⟨f6, hB6, by rw [e13]; exact g3, fun i hi => by rw [e16, hq6]; exact g4 i hi, fun x h1 h2 => by rw [hLB]; exact g5 x h1 h2, fun x hx => ?_, fun i hi j2 hj2 h1 h2 => ?_, g8⟩
            · rw [hLJ] at hx
              by_cases e : x = j
              · rw [e]; exact ⟨hfull, fun c2 h1 h2 => by have := h2 rfl; omega⟩
              · simp only [e, decide_false, Bool.false_or] at hx
                refine ⟨(g6 x hx).1, fun c2 h1 h2 h3 h4 => ?_⟩
                rw [hLB]
                refine (g6 x hx).2 c2 h1 (fun e2 => ?_) h3 h4
                rw [e2] at hx
                unfold XLJ at hx
                simp at hx
                omega
            · rw [hq6] at h1 h2
              rw [hLJ, g7 i hi j2 hj2 h1 h2]; simp
          refine T_bind (T_mono (shown_eq hP hX h9 h10 hOB hOJ hmp hj hG6 (by rw [hLJ]; simp) hF) (fun t7 h7 => ?_))
          obtain ⟨sz3, w1, w2, w3, w4⟩ := h7
          refine next t7 ⟨sz3, w1, by omega, by rw [w3 k m1, hq6]; exact m2, fun j2 h2 => ?_, fun j2 h2 => ?_, fun j2 h1 h2 h3 => ?_⟩
          · rw [w4, hLJ]
            simp only [show ¬ j2 = j by omega, decide_false, Bool.false_or]
            exact m3 j2 (by omega)
          · rw [w4, hLJ, m4 j2 h2]; simp
          · rw [w4, hLJ]
            by_cases e : j2 = j
            · simp [e]
            · rw [m5 j2 (by omega) h2 h3]; simp
        · have c : colc nb (pX nb nj s0) j < mo j := Decidable.not_not.mp (fun q => c (b01_0.mpr q))
          exact T_some ⟨f6, sz2, hB6, .inr ⟨j, rfl, hj, by show XLJ nj t6 j = true; rw [hLJ]; simp, c⟩⟩
      · rw [if_neg (by rw [b01_not cb]; decide)]
        refine next t ⟨sz2, hG3, m1, m2, fun j2 h => m3 j2 (by omega), m4, fun j2 h1 h2 h3 => ?_⟩
        by_cases e : j2 = j
        · rw [e] at h2 h3 ⊢
          exact m4 j (done j hj (by simpa using cb) h2 h3)
        · exact m5 j2 (by omega) h2 h3
  · intro n t hI
    obtain ⟨sz2, hG2, m1, m2, m3, m4, m5⟩ := hI
    obtain ⟨g1, g2, g3, g4, g5, g6, g7, g8⟩ := hG2
    show T (b_Plan_reachRoom_59 F (l_Plan_reachRoom_59 F k6 k127 n) k6 k127 t (k : Nat) (b : Nat) ways nj) _
    unfold b_Plan_reachRoom_59
    refine T_yes (by rw [(g1 11 2 rfl).trans d6, wnat (by omega)]; omega) (hk t sz2 ⟨g1, g2, g3, g4, g5, g6, fun i hi j2 hj2 h1 h2 => ?_, m1⟩)
    by_cases e : i = k
    · rw [e, m2] at h1 h2; exact m5 j2 hj2 h1 h2
    · exact g7 i (by omega) j2 hj2 h1 h2
theorem room_eq {F nb nj L : Nat} {mo : Nat → Nat} {may : Pl} {OB OJ : Nat} {s0 : St} (hP : XP nb nj L mo may s0) (hX : XC nb nj s0) (h9 : s0 11 9 = OB) (h10 : s0 11 10 = OJ) (hOB : OB ≤ 24) (hOJ : OJ ≤ 12) (hmp : ∀ b j, b < nb → j < nj → pX nb nj s0 b j = true → may b j = true) (hcol : ∀ j, j < nj → colc nb (pX nb nj s0) j ≤ mo j) (hF : 60 ≤ F) : T (f_Plan_reachRoom F s0) (RRP nb nj L mo (frX may OB OJ) (pX nb nj s0) s0) := by
  obtain ⟨d1, d2, d3, d4, d5, d6, d7, d8, d9⟩ := id hP
  unfold f_Plan_reachRoom
  refine T_bind (T_mono (start_eq (fr := frX may OB OJ) hP hX hF) (fun s hs => ?_))
  obtain ⟨sz, hG⟩ := hs
  refine loopW (l := fun n (a : St × Nat × Nat) => l_Plan_reachRoom_6 F (fun s2 => some ((-1), s2)) n a.1 (a.2.2 : Nat)) (I := fun a => XGI nb nj L mo (frX may OB OJ) (pX nb nj s0) s0 a.2.1 a.2.2 32 0 a.1) (mu := fun a => nb - a.2.2) (G := fun r => T r (RRP nb nj L mo (frX may OB OJ) (pX nb nj s0) s0)) ?_ nb F (s, sz, 0) (by show nb - 0 ≤ nb; omega) (by omega) hG
  intro n a hI next
  obtain ⟨t, sz, k⟩ := a
  have hI0 : XGI nb nj L mo (frX may OB OJ) (pX nb nj s0) s0 sz k 32 0 t := hI
  obtain ⟨g1, g2, g3, g4, g5, g6, g7, g8⟩ := hI0
  have hle := BF_le g2
  show T (b_Plan_reachRoom_6 F (l_Plan_reachRoom_6 F (fun s2 => some ((-1), s2)) n) (fun s2 => some ((-1), s2)) t (k : Nat)) _
  unfold b_Plan_reachRoom_6
  by_cases c : sz ≤ k
  · refine T_yes (by rw [g3, wnat (by omega), wnat (by omega)]; omega) (T_some ⟨g1, sz, g2, .inl ⟨rfl, ⟨fun b j hb hj x1 x2 x3 => ?_, fun b j hb hj x1 x2 x3 => ?_, fun j hj x1 => (g6 j x1).1⟩, g5⟩⟩)
    · obtain ⟨i, y1, y2⟩ := g2.2.1 b x1
      rw [← y2] at x2 x3
      exact g7 i (by omega) j hj x2 x3
    · exact (g6 j x1).2 b hb (fun e => by omega) x2 x3
  · have hqk := (g2.1 k (by omega)).1
    refine T_no (by rw [g3, wnat (by omega), wnat (by omega)]; omega) (T_no (by rw [show w32 24 = 24 by decide, wnat (by omega)]; omega) (T_gd (inbN (show k < 24 by omega) (by decide)) ?_))
    rw [ix_nat (show k < 2147483648 by omega), g4 k (by omega)]
    have ib : inb ((xq t k : Nat) : Int) 24 := inbN (show xq t k < 24 by omega) (by decide)
    refine T_gd ib (T_gd ib ?_)
    obtain ⟨ov, o1, o2⟩ := openJ_eq (s := t) (b := xq t k) ((g1 11 9 rfl).trans h9) ((g1 11 10 rfl).trans h10) hOB hOJ (by omega)
    refine T_bind (T_eq o1 ?_)
    rw [ix_nat (show xq t k < 2147483648 by omega)]
    have hc := XC_fr hX g1
    refine room_59 hP hX h9 h10 hOB hOJ hmp hcol (fun t2 sz2 h2 => ?_) ⟨g1, g2, g3, g4, g5, g6, g7, g8⟩ (by omega) (fun j hj => ?_) hF
    · rw [show (k : Int) + 1 = ((k + 1 : Nat) : Int) by omega]
      exact next (t2, sz2, k + 1) h2 (by show nb - (k + 1) < nb - k; omega)
    · show bt (andI (andI (andI (t 13 (xq t k)) (xorI (t 14 (xq t k)) (-1))) ov) (xorI (t 11 12) (-1))) j = _
      rw [bt_and, bt_and, bt_and, bt_not _ (by omega), bt_not _ (by omega), o2 j (by omega), g1 13 _ rfl, d9 _ hqk j (by omega), ← pX_in (s := t) hqk hj, hc.2]
      unfold frX XLJ
      simp only [hj, decide_true, Bool.true_and]
      cases may (xq t k) j <;> cases opn OB OJ (xq t k) j <;> cases pX nb nj s0 (xq t k) j <;> cases bt (t 11 12) j <;> rfl
/-! one look more -/
def XKL (c j : Nat) : Bool := XKG c j || c == 14 || c == 15
theorem upl_comm (p : Pl) {b j j2 : Nat} (h : j2 ≠ j) (u v : Bool) : upl (upl p b j2 u) b j v = upl (upl p b j v) b j2 u := by
  funext b2 k
  unfold upl
  by_cases e1 : b2 = b ∧ k = j
  · rw [if_pos e1, if_neg (fun z => h (by omega)), if_pos e1]
  · rw [if_neg e1]
    by_cases e2 : b2 = b ∧ k = j2
    · rw [if_pos e2, if_pos e2]
    · rw [if_neg e2, if_neg e2, if_neg e1]
theorem look_loop {F nb nj L : Nat} {fr p : Pl} {rt : Nat → Prop} {LB LJ : Nat → Bool} {q : Nat → Nat} {sz last : Nat} {t0 : St} (hnb : nb ≤ 24) (hnj : nj ≤ 12) (hB : BF nb nj fr p rt LB LJ (t0 18) (t0 17) q sz) : ∀ (i n : Nat) (s : St) (j x : Nat), i + 2 ≤ n → i < sz → j < nj → t0 18 j = q i → fr (q i) j = true → p (q i) j = false → XC nb nj s → WK nb nj fr p (pX nb nj s) q last j i → frs XK45 t0 s → (∃ f : Nat → Nat, (∀ t, t ≤ x → f t < nj) ∧ (∀ t t2, t < t2 → t2 ≤ x → f t ≠ f t2) ∧ f x = j ∧ ∀ t, t < x → ∃ k, i < k ∧ k < sz ∧ t0 18 (f t) = q k) → T (l_Plan_addLook_14 F (fun s3 => some (1, s3)) n s j x) (fun r => r.1 = 1 ∧ frs XK45 t0 r.2 ∧ XC nb nj r.2 ∧ ∃ root, root < nb ∧ rt root ∧ AR nb nj fr p (pX nb nj r.2) last root) := by
  intro i
  induction i using Nat.strongRecOn with
  | ind i ih =>
    intro n s j x hn hi hj e18 hf hp hX hW hK hV
    obtain ⟨f, v1, v2, v3, v4⟩ := hV
    have hx : x + 1 ≤ nj := fb_holes nj (x + 1) f (fun t ht => v1 t (by omega)) (fun t t2 h1 h2 => v2 t t2 h1 (by omega))
    obtain ⟨m, rfl⟩ : ∃ m, n = m + 1 := ⟨n - 1, by omega⟩
    have hq := (hB.1 i hi).1
    show T (b_Plan_addLook_14 F (l_Plan_addLook_14 F (fun s3 => some (1, s3)) m) (fun s3 => some (1, s3)) s j x) _
    unfold b_Plan_addLook_14
    have s18 : s 18 j = (q i : Int) := (hK 18 j rfl).trans e18
    have s17 : s 17 (q i) = t0 17 (q i) := hK 17 (q i) rfl
    refine T_no (by rw [show w32 12 = 12 by decide, wnat (by omega)]; omega) (T_no (by rw [show w32 (-1) = -1 by decide, wnat (by omega)]; omega) (T_gd (inbN (show j < 12 by omega) (by decide)) ?_))
    rw [ix_nat (show j < 2147483648 by omega), s18]
    refine T_gd (inbN (show q i < 24 by omega) (by decide)) ?_
    rw [ix_nat (show q i < 2147483648 by omega), s17]
    rcases hB.2.2.2.2 i hi with ⟨c1, c2⟩ | ⟨j2, c1, c2, c3, c4, i2, c5, c6⟩
    · rw [c1]
      refine T_yes rfl ?_
      unfold b_Plan_addLook_53
      obtain ⟨t, e1, e2, e3, e4⟩ := join_pl hX hnb hnj hq hj
      refine T_bind (T_eq e1 ?_)
      obtain ⟨m2, rfl⟩ : ∃ m2, m = m2 + 1 := ⟨m - 1, by omega⟩
      have fin : T (some ((1 : Int), t)) (fun r => r.1 = 1 ∧ frs XK45 t0 r.2 ∧ XC nb nj r.2 ∧ ∃ root, root < nb ∧ rt root ∧ AR nb nj fr p (pX nb nj r.2) last root) := T_some ⟨rfl, frs_trans hK e2, e3, q i, hq, c2, by show AR nb nj fr p (pX nb nj t) last (q i); rw [e4]; exact WK_end hW hq hj hf hp⟩
      show T (b_Plan_addLook_14 F (l_Plan_addLook_14 F (fun s3 => some (1, s3)) m2) (fun s3 => some (1, s3)) t (-1) ((x : Int) + 1)) _
      unfold b_Plan_addLook_14
      exact T_if (fun _ => fin) (fun _ => T_yes rfl fin)
    · have hj2 : j2 < nj := (hB.2.2.2.1 j2 c2).1
      rw [c1]
      refine T_no (by rw [show w32 (-1) = -1 by decide, wnat (by omega)]; omega) ?_
      have ne : j2 ≠ j := fun z => by rw [z, hp] at c3; cases c3
      obtain ⟨t1, a1, a2, a3, a4⟩ := part_pl hX hnb hnj hq hj2
      refine T_bind (T_eq a1 ?_)
      unfold b_Plan_addLook_53
      obtain ⟨t2, b1, b2, b3, b4⟩ := join_pl a3 hnb hnj hq hj
      refine T_bind (T_eq b1 ?_)
      rw [show (x : Int) + 1 = ((x + 1 : Nat) : Int) by omega]
      obtain ⟨z0, i3, z1, z2, z3, z4⟩ := hB.2.2.2.1 j2 c2
      have e32 : i3 = i2 := hB.2.2.1 i3 i2 z1 (by omega) (by rw [z2] at c6; omega)
      rw [e32] at z1 z2 z3 z4
      refine ih i2 c5 m t2 j2 (x + 1) (by omega) z1 hj2 z2 z3 z4 b3 ?_ (frs_trans (frs_trans hK a2) b2) ?_
      · rw [b4, a4, upl_comm _ ne]
        refine WK_step hW hq hj hf hp hj2 c3 c4 c5 (fun k hk e => ?_)
        have := hB.2.2.1 k i (by omega) hi e
        omega
      · refine ⟨fun t => if t = x + 1 then j2 else f t, fun t ht => ?_, fun t t3 h1 h2 => ?_, by show (if x + 1 = x + 1 then j2 else f (x + 1)) = j2; rw [if_pos rfl], fun t ht => ?_⟩
        · show (if t = x + 1 then j2 else f t) < nj
          by_cases e : t = x + 1
          · rw [if_pos e]; exact hj2
          · rw [if_neg e]; exact v1 t (by omega)
        · show (if t = x + 1 then j2 else f t) ≠ (if t3 = x + 1 then j2 else f t3)
          rw [if_neg (show ¬ t = x + 1 by omega)]
          by_cases e : t3 = x + 1
          · rw [if_pos e]
            intro z
            by_cases ex : t = x
            · rw [ex, v3] at z; exact ne z.symm
            · obtain ⟨k, w1, w2, w3⟩ := v4 t (by omega)
              rw [z, z2] at w3
              have := hB.2.2.1 i2 k (by omega) w2 (by omega)
              omega
          · rw [if_neg e]; exact v2 t t3 h1 (by omega)
        · show ∃ k, i2 < k ∧ k < sz ∧ t0 18 (if t = x + 1 then j2 else f t) = q k
          rw [if_neg (show ¬ t = x + 1 by omega)]
          by_cases ex : t = x
          · rw [ex, v3]; exact ⟨i, c5, hi, e18⟩
          · obtain ⟨k, w1, w2, w3⟩ := v4 t (by omega)
            exact ⟨k, by omega, w2, w3⟩
/-- what addLook leaves -/
def ALP (nb nj L : Nat) (mo : Nat → Nat) (fr : Pl) (s0 : St) (q : Int × St) : Prop := frs XKL s0 q.2 ∧ XC nb nj q.2 ∧ ((q.1 = 0 ∧ pX nb nj q.2 = pX nb nj s0 ∧ ∃ VB VJ, CL nb nj fr mo (pX nb nj s0) VB VJ ∧ ∀ b, b < nb → rowc nj (pX nb nj s0) b < L → VB b = true) ∨ (q.1 = 1 ∧ ∃ last root, root < nb ∧ rowc nj (pX nb nj s0) root < L ∧ colc nb (pX nb nj s0) last < mo last ∧ AR nb nj fr (pX nb nj s0) (pX nb nj q.2) last root))
theorem XKG_L {s t : St} (h : frs XKG s t) : frs XKL s t := frs_sub h (fun c j e => by unfold XKL; rw [e]; rfl)
theorem XK45_L {s t : St} (h : frs XK45 s t) : frs XKL s t := frs_sub h (fun c j e => by
  unfold XK45 at e; unfold XKL
  simp only [Bool.or_eq_true] at e ⊢
  rcases e with e | e <;> simp [e])
theorem addLook_eq {F nb nj L : Nat} {mo : Nat → Nat} {may : Pl} {OB OJ : Nat} {s0 : St} (hP : XP nb nj L mo may s0) (hX : XC nb nj s0) (h9 : s0 11 9 = OB) (h10 : s0 11 10 = OJ) (hOB : OB ≤ 24) (hOJ : OJ ≤ 12) (hmp : ∀ b j, b < nb → j < nj → pX nb nj s0 b j = true → may b j = true) (hcol : ∀ j, j < nj → colc nb (pX nb nj s0) j ≤ mo j) (hF : 60 ≤ F) : T (f_Plan_addLook F s0) (ALP nb nj L mo (frX may OB OJ) s0) := by
  obtain ⟨d1, d2, d3, d4, d5, d6, d7, d8, d9⟩ := id hP
  unfold f_Plan_addLook
  refine T_bind (T_mono (room_eq hP hX h9 h10 hOB hOJ hmp hcol hF) (fun r hr => ?_))
  obtain ⟨v, t⟩ := r
  obtain ⟨g1, sz, g2, g3⟩ := hr
  have g1 : frs XKG s0 t := g1
  have hc := XC_fr hX g1
  rcases g3 with ⟨e1, e2, e3⟩ | ⟨last, e1, e2, e3, e4⟩
  · have e1 : v = -1 := e1
    refine T_yes (by show w32 v = w32 (-1); rw [e1]) (T_some ⟨XKG_L g1, hc.1, .inl ⟨rfl, hc.2, _, _, e2, e3⟩⟩)
  · have e1 : v = last := e1
    refine T_no (by show ¬ w32 v = w32 (-1); rw [e1, wnat (by omega), show w32 (-1) = -1 by decide]; omega) ?_
    show T (l_Plan_addLook_14 F (fun s3 => some (1, s3)) F t v 0) _
    rw [e1]
    obtain ⟨z0, i, z1, z2, z3, z4⟩ := g2.2.2.2.1 last e3
    have hle := BF_le g2
    have ll := look_loop (F := F) (L := L) (last := last) (t0 := t) d1 d2 g2 i F t last 0 (by omega) z1 e2 z2 z3 z4 hc.1 (by rw [hc.2]; exact WK_0) (frs_refl _ _) ⟨fun _ => last, fun _ _ => e2, fun t1 t2 h1 h2 => by omega, rfl, fun t1 h => absurd h (Nat.not_lt_zero t1)⟩
    refine T_mono ll (fun r hr => ?_)
    obtain ⟨h1, h2, h3, root, h4, h5, h6⟩ := hr
    exact ⟨frs_trans (XKG_L g1) (XK45_L h2), h3, .inr ⟨h1, last, root, h4, h5, e4, h6⟩⟩
