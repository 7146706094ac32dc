/-! the class: prizes given -/
def okq (hs : Nat → Nat → Bool) (m : St) (one : Nat → Bool) (p b : Nat) : Bool := (decide (m 36 p ≤ ((manyq hs b : Nat) : Int)) && (decide (m 38 p = 0) || !one b)) && ((decide (m 33 p < 0 ∨ m 33 p = m 1 b)) && ((decide (m 34 p < 0 ∨ m 34 p = m 2 b)) && (decide (m 35 p < 0 ∨ m 35 p = m 3 b))))
theorem okq_iff {hs : Nat → Nat → Bool} {m : St} {one : Nat → Bool} {p b : Nat} : okq hs m one p b = true ↔ (m 36 p ≤ ((manyq hs b : Nat) : Int) ∧ (m 38 p = 0 ∨ one b = false)) ∧ (m 33 p < 0 ∨ m 33 p = m 1 b) ∧ (m 34 p < 0 ∨ m 34 p = m 2 b) ∧ (m 35 p < 0 ∨ m 35 p = m 3 b) := by
  unfold okq
  simp only [Bool.and_eq_true, Bool.or_eq_true, decide_eq_true_eq, Bool.not_eq_true']
def oneq (hs : Nat → Nat → Bool) (m : St) (l : Nat → Nat) (R : Nat) : Nat → Nat → Bool
  | 0, _ => false
  | p + 1, b => oneq hs m l R p b || givq (fun i => okq hs m (oneq hs m l R p) p (l i)) l R (m 37 p).toNat b
def KO (c j : Nat) : Bool := c == 43 || c == 44 || c == 47
theorem meets_eq {cp k p : Nat} {s : St} {w v : Int} (hk : k < 4) (hp : p < 8) (e : s (cp + 4 + k) p = w) (h1 : -1 ≤ w) (h2 : w ≤ 100) (v1 : 0 ≤ v) (v2 : v ≤ 100) : f_Prize_meets cp s k p v = some (b01 (w < 0 ∨ w = v), s) := by
  unfold f_Prize_meets
  have a : inb (k : Int) 4 := inbN hk (by decide)
  have b : inb (p : Int) 8 := inbN hp (by decide)
  rw [gd_yes a, gd_yes b, ix_nat (show k < 2147483648 by omega), ix_nat (show p < 2147483648 by omega), e, wid (a := w) (by omega) (by omega), wid (a := v) (by omega) (by omega), show w32 (-1) = -1 by decide]
  unfold b01
  by_cases c : w = -1
  · rw [if_pos c, if_pos (.inl (by omega))]
  · rw [if_neg c, gd_yes a, gd_yes b]
    by_cases c2 : w = v
    · rw [if_pos c2, if_pos (.inr c2)]
    · rw [if_neg c2, if_neg (by omega)]
theorem wished_eq {cp p b : Nat} {s m : St} {mk : Nat} (hR : IRr cp s m) (hB : IB s m) (hp : (p : Int) < m 0 51) (hb : (b : Int) < m 0 4) (hmk : mk ≤ 12) : f_Prize_isWished cp s p b mk = some (b01 ((m 33 p < 0 ∨ m 33 p = m 1 b) ∧ (m 34 p < 0 ∨ m 34 p = m 2 b) ∧ (m 35 p < 0 ∨ m 35 p = m 3 b) ∧ m 36 p ≤ mk), s) := by
  have r0 := hR.1
  have b0 := hB.1
  have r := hR.2 p hp
  have z := hB.2 b hb
  have p8 : p < 8 := by omega
  have ib : inb (b : Int) 24 := inbN (by omega) (by decide)
  have ixb : ix (b : Int) = b := ix_nat (by omega)
  have m0 := meets_eq (cp := cp) (k := 0) (p := p) (s := s) (v := m 1 b) (by decide) p8 r.1.1 r.1.2.1 (by omega) z.1.2.1 (by omega)
  have m1 := meets_eq (cp := cp) (k := 1) (p := p) (s := s) (v := m 2 b) (by decide) p8 r.2.1.1 r.2.1.2.1 (by omega) z.2.1.2.1 (by omega)
  have m2 := meets_eq (cp := cp) (k := 2) (p := p) (s := s) (v := m 3 b) (by decide) p8 r.2.2.1.1 r.2.2.1.2.1 (by omega) z.2.2.1.2.1 (by omega)
  unfold f_Prize_isWished
  rw [gd_yes ib, ixb, z.1.1]
  show ((f_Prize_meets cp s ((0 : Nat) : Int) p (m 1 b)).bind _) = _
  rw [m0]
  show (if w32 (b01 (m 33 p < 0 ∨ m 33 p = m 1 b)) = 0 then some ((0 : Int), s) else gd (inb (b : Int) 24) ((f_Prize_meets cp s ((1 : Nat) : Int) p (s 3 b)).bind _)) = _
  rw [z.2.1.1, m1]
  by_cases c0 : m 33 p < 0 ∨ m 33 p = m 1 b
  · rw [if_neg (fun q => b01_0.mp q c0), gd_yes ib]
    show (if w32 (b01 (m 34 p < 0 ∨ m 34 p = m 2 b)) = 0 then some ((0 : Int), s) else gd (inb (b : Int) 24) ((f_Prize_meets cp s ((2 : Nat) : Int) p (s 4 b)).bind _)) = _
    rw [z.2.2.1.1, m2]
    by_cases c1 : m 34 p < 0 ∨ m 34 p = m 2 b
    · rw [if_neg (fun q => b01_0.mp q c1), gd_yes ib]
      show (if w32 (b01 (m 35 p < 0 ∨ m 35 p = m 3 b)) = 0 then some ((0 : Int), s) else gd (inb 3 4) (gd (inb (p : Int) 8) ((f_XJ_max s 1 (s (cp + 4 + ix 3) (ix (p : Int)))).bind fun q12 => if w32 (mk : Int) < w32 q12.1 then some (0, q12.2) else some (1, q12.2)))) = _
      by_cases c2 : m 35 p < 0 ∨ m 35 p = m 3 b
      · rw [if_neg (fun q => b01_0.mp q c2), gd_yes (by decide), gd_yes (inbN p8 (by decide)), ix_nat (show p < 2147483648 by omega), show ix 3 = 3 by decide]
        have mx : f_XJ_max s 1 (s (cp + 4 + 3) p) = some (m 36 p, s) := by
          have q := r.2.2.2.1
          have e7 : cp + 4 + 3 = cp + 7 := rfl
          unfold f_XJ_max
          rw [e7, show w32 1 = 1 by decide]
          rcases q.1 with e | e
          · rw [e.1, e.2, show w32 (-1) = -1 by decide, if_neg (by decide)]
          · rw [e, wid (by omega) (by omega)]
            by_cases c : 1 < m 36 p
            · rw [if_pos c]
            · rw [if_neg c, show m 36 p = 1 by omega]
        rw [mx]
        show (if w32 (mk : Int) < w32 (m 36 p) then some ((0 : Int), s) else some (1, s)) = _
        have q := r.2.2.2.1.2
        rw [wnat (by omega), wid (by omega) (by omega)]
        unfold b01
        by_cases c3 : m 36 p ≤ mk
        · rw [if_neg (by omega), if_pos ⟨c0, c1, c2, c3⟩]
        · rw [if_pos (by omega), if_neg (fun q => c3 q.2.2.2)]
      · rw [if_pos (b01_0.mpr c2)]
        unfold b01
        rw [if_neg (fun q => c2 q.2.2.1)]
    · rw [if_pos (b01_0.mpr c1)]
      unfold b01
      rw [if_neg (fun q => c1 q.2.1)]
  · rw [if_pos (b01_0.mpr c0)]
    unfold b01
    rw [if_neg (fun q => c0 q.1)]
theorem givq_step {okl : Nat → Bool} {l : Nat → Nat} {x q b : Nat} : givq okl l (x + 1) q b = true ↔ givq okl l x q b = true ∨ (okl x = true ∧ fb_ct okl x < q ∧ l x = b) := by
  rw [givq_iff, givq_iff]
  constructor
  · rintro ⟨i, hi, h⟩
    by_cases e : i = x
    · subst e; exact .inr h
    · exact .inl ⟨i, by omega, h⟩
  · rintro (⟨i, hi, h⟩ | h)
    · exact ⟨i, by omega, h⟩
    · exact ⟨x, by omega, h⟩
theorem b01_b {a b : Bool} (h : a = b) : b01 (a = true) = b01 (b = true) := by rw [h]
theorem giveOne_k {F cp p R nbb : Nat} {hs : Nat → Nat → Bool} {m s0 : St} {one : Nat → Bool} {fa fb : Nat → Int} {mk : Nat → Prop} {l : Nat → Nat} (hcp : cp = 80 ∨ cp = 88) (hR : IRr cp s0 m) (hB : IB s0 m) (hp : (p : Int) < m 0 51) (hC : HX hs s0) (hnb : m 0 4 = nbb) (hmk : ∀ b, mk b → b < nbb) (hS : SRT fa fb mk 24 R l) (h43 : s0 43 3 = R) (h46 : ∀ i, i < R → s0 46 i = ((l i : Nat) : Int)) (h47 : ∀ b, b < 24 → s0 47 b = b01 (one b = true)) {Q : St → Prop} (hk : ∀ t best cnt, best = (m 37 p).toNat → cnt = fb_ct (fun i => okq hs m one p (l i)) R → frs KO s0 t → t 43 3 = R → t 43 0 = ((min best cnt : Nat) : Int) → (∀ q, q < min best cnt → t 44 q = ((l (nthq (fun i => okq hs m one p (l i)) R q) : Nat) : Int)) → (∀ b, b < 24 → t 47 b = b01 ((one b || givq (fun i => okq hs m one p (l i)) l R best b) = true)) → Q t) (hF : 50 ≤ F) : T (f_Giver_giveOne F cp s0 p) Q := by
  have r0 := hR.1
  have r := hR.2 p hp
  have p8 : p < 8 := by omega
  have R24 := SRT_len hS
  have b0 := hB.1
  have kR := hk
  obtain ⟨best, hbest⟩ : ∃ n : Nat, n = (m 37 p).toNat := ⟨_, rfl⟩
  have bp : m 37 p = best := by omega
  have ip : inb (p : Int) 8 := inbN p8 (by decide)
  have ixp : ix (p : Int) = p := ix_nat (by omega)
  have ctm : ∀ i j, i ≤ j → fb_ct (fun i => okq hs m one p (l i)) i ≤ fb_ct (fun i => okq hs m one p (l i)) j := fun i j h => fb_ct_mono _ h
  unfold f_Giver_giveOne
  refine loopG (l := fun n (s : St) x => l_Giver_giveOne_8 cp F (fun s2 => some s2) n s p (x : Nat)) (N := R) (I := fun x s => frs KO s0 s ∧ s 43 3 = R ∧ s 43 0 = ((fb_ct (fun i => okq hs m one p (l i)) x : Nat) : Int) ∧ fb_ct (fun i => okq hs m one p (l i)) x ≤ best ∧ (∀ i, i < x → okq hs m one p (l i) = true → s 44 (fb_ct (fun i => okq hs m one p (l i)) i) = ((l i : Nat) : Int)) ∧ ∀ b, b < 24 → s 47 b = b01 ((one b || givq (fun i => okq hs m one p (l i)) l x best b) = true)) (G := fun r => T r Q) ?_ ?_ R 0 F (put s0 43 0 0) (by omega) (by omega) ⟨frs_put (frs_refl _ _) rfl, by rw [put_j (by decide)]; exact h43, put_eq _ _ _ _, Nat.zero_le _, fun i hi => absurd hi (Nat.not_lt_zero i), fun b hb => ?_⟩
  · intro n x s hx hI next
    obtain ⟨f, i1, i2, i3, i4, i5⟩ := hI
    have cpf : ∀ k j, k < 8 → s (cp + k) j = s0 (cp + k) j := fun k j hk2 => f _ _ (by unfold KO; simp; omega)
    have hRs : IRr cp s m := IRr_cong hcp (fun c j e => f c j (by
      cases q : KO c j with
      | false => rfl
      | true =>
        exfalso
        unfold KO at q
        simp only [Bool.or_eq_true, beq_iff_eq] at q
        rcases q with (q | q) | q <;> rw [q] at e <;> exact absurd e (by show ¬ (0 : Nat) = 8; decide))) (fun _ _ _ => rfl) hR
    have hBs : IB s m := IB_cong (fun c j e => f c j (by
      cases q : KO c j with
      | false => rfl
      | true =>
        exfalso
        unfold KO at q
        simp only [Bool.or_eq_true, beq_iff_eq] at q
        rcases q with (q | q) | q <;> rw [q] at e <;> exact absurd e (by show ¬ (0 : Nat) = 1; decide))) (fun _ _ _ => rfl) hB
    have lx := hS.1 x hx
    have lb : l x < nbb := hmk _ lx.1
    have c0 : fb_ct (fun i => okq hs m one p (l i)) x ≤ x := fb_ct_le _ x
    show T (b_Giver_giveOne_8 cp F (l_Giver_giveOne_8 cp F _ n) _ s p x) Q
    unfold b_Giver_giveOne_8
    refine T_no (by rw [i1, wnat (by omega), wnat (by omega)]; omega) (T_gd ip ?_)
    rw [ixp, cpf 1 p (by decide), cpf 2 p (by decide), r.2.2.2.2.1.1, r.2.2.2.2.2.1, bp, i2, wnat (show best < 2147483648 by omega), wnat (show fb_ct (fun i => okq hs m one p (l i)) x < 2147483648 by omega)]
    by_cases cb : best ≤ fb_ct (fun i => okq hs m one p (l i)) x
    · have eb : fb_ct (fun i => okq hs m one p (l i)) x = best := by omega
      have cm := ctm x R (by omega)
      refine T_yes (by omega) (T_some (hk s best _ hbest rfl f i1 ?_ (fun q hq => ?_) (fun b hb => ?_)))
      · rw [i2, eb, Nat.min_eq_left (by omega)]
      · have z := nthq_spec (P := fun i => okq hs m one p (l i)) (N := R) (i := q) (by omega)
        have lt : nthq (fun i => okq hs m one p (l i)) R q < x := by
          rcases Nat.lt_or_ge (nthq (fun i => okq hs m one p (l i)) R q) x with w | w
          · exact w
          · have := ctm x _ w
            rw [z.2.2] at this
            omega
        have y := i4 _ lt z.2.1
        rw [z.2.2] at y
        exact y
      · rw [i5 b hb]
        have e : givq (fun i => okq hs m one p (l i)) l x best b = givq (fun i => okq hs m one p (l i)) l R best b := by
          rw [Bool.eq_iff_iff, givq_iff, givq_iff]
          constructor
          · rintro ⟨i, a, b⟩
            exact ⟨i, by omega, b⟩
          · rintro ⟨i, a, b, c, d⟩
            refine ⟨i, ?_, b, c, d⟩
            rcases Nat.lt_or_ge i x with w | w
            · exact w
            · have := ctm x i w
              omega
        rw [e]
    · have ixx : ix (x : Int) = x := ix_nat (by omega)
      have ixl : ix ((l x : Nat) : Int) = l x := ix_nat (by omega)
      have il : inb ((l x : Nat) : Int) 24 := inbN lx.2 (by decide)
      have e46 : s 46 x = ((l x : Nat) : Int) := by rw [f 46 x rfl]; exact h46 x hx
      have e47 : s 47 (l x) = b01 (one (l x) = true) := by
        rw [i5 (l x) lx.2]
        refine b01_b ?_
        have : givq (fun i => okq hs m one p (l i)) l x best (l x) = false := by
          cases q : givq (fun i => okq hs m one p (l i)) l x best (l x) with
          | false => rfl
          | true =>
            obtain ⟨i, a, b, c, d⟩ := givq_iff.mp q
            have := SRT_inj hS (by omega) hx d
            omega
        rw [this, Bool.or_false]
      have no : okq hs m one p (l x) = false → T (l_Giver_giveOne_8 cp F (fun s2 => some s2) n s p ((x : Int) + 1)) Q := by
        intro e
        have e1 : fb_ct (fun i => okq hs m one p (l i)) (x + 1) = fb_ct (fun i => okq hs m one p (l i)) x := by rw [fb_ct_succ, e]; simp
        refine next s ⟨f, i1, by rw [e1]; exact i2, by rw [e1]; exact i3, fun i hi ho => ?_, fun b hb => ?_⟩
        · have : i ≠ x := fun q => by rw [q, e] at ho; cases ho
          exact i4 i (by omega) ho
        · rw [i5 b hb]
          refine b01_b ?_
          congr 1
          rw [Bool.eq_iff_iff, givq_step]
          simp only [e]
          simp
      have yes : okq hs m one p (l x) = true → T (gd (inb ((l x : Nat) : Int) 24) (gd (inb (put s 47 (ix ((l x : Nat) : Int)) (nz 1) 43 0) 24) (l_Giver_giveOne_8 cp F (fun s2 => some s2) n (put (put (put s 47 (ix ((l x : Nat) : Int)) (nz 1)) 44 (ix (put s 47 (ix ((l x : Nat) : Int)) (nz 1) 43 0)) ((l x : Nat) : Int)) 43 0 (put (put s 47 (ix ((l x : Nat) : Int)) (nz 1)) 44 (ix (put s 47 (ix ((l x : Nat) : Int)) (nz 1) 43 0)) ((l x : Nat) : Int) 43 0 + 1)) p ((x : Int) + 1)))) Q := by
        intro e
        rw [ixl, nz_1]
        refine T_gd il ?_
        rw [put_c (show (43 : Nat) ≠ 47 by decide), i2, ix_nat (by omega), put_c (show (43 : Nat) ≠ 44 by decide), put_c (show (43 : Nat) ≠ 47 by decide), i2]
        refine T_gd (inbN (by omega) (by decide)) ?_
        have e1 : fb_ct (fun i => okq hs m one p (l i)) (x + 1) = fb_ct (fun i => okq hs m one p (l i)) x + 1 := by rw [fb_ct_succ, e]; simp
        refine next _ ⟨frs_put (frs_put (frs_put f rfl) rfl) rfl, ?_, ?_, by omega, fun i hi ho => ?_, fun b hb => ?_⟩
        · rw [put_j (by decide), put_c (by decide), put_c (by decide)]; exact i1
        · rw [put_eq, e1]; omega
        · rw [put_c (by decide), put_at]
          by_cases q : i = x
          · rw [q, if_pos rfl]
          · have lt := (nthq_of (P := fun i => okq hs m one p (l i)) (show i < x by omega) ho).1
            rw [if_neg (by omega), put_c (by decide)]
            exact i4 i (by omega) ho
        · rw [put_c (by decide), put_c (by decide), put_at]
          by_cases q : b = l x
          · rw [if_pos q]
            unfold b01
            rw [if_pos (by
              rw [Bool.or_eq_true]
              exact .inr (givq_step.mpr (.inr ⟨e, by omega, q.symm⟩)))]
          · rw [if_neg q, i5 b hb]
            refine b01_b ?_
            congr 1
            rw [Bool.eq_iff_iff, givq_step]
            constructor
            · exact fun z => .inl z
            · rintro (z | z)
              · exact z
              · exact absurd z.2.2.symm q
      have ml : fb_ct (hs (l x)) 12 ≤ 12 := fb_ct_le _ 12
      have hCs : HX hs s := ⟨hC.1, fun b j hb hj => by rw [f 27 _ rfl]; exact hC.2 b j hb hj⟩
      have b63 : (m 38 p = 0 ∨ one (l x) = false) → T (b_Giver_giveOne_63 cp F (l_Giver_giveOne_8 cp F (fun s2 => some s2) n) (fun s2 => some s2) s p x ((l x : Nat) : Int) 0) Q := by
        intro hal
        unfold b_Giver_giveOne_63
        refine T_yes (by decide) (T_bind (T_eq (marksOf_eq hCs lx.2 (by omega)) (T_bind (T_eq (wished_eq hRs hBs hp (by omega) ml) ?_))))
        dsimp only
        by_cases w : okq hs m one p (l x) = true
        · have y := okq_iff.mp w
          refine T_no (fun q => b01_0.mp q ⟨y.2.1, y.2.2.1, y.2.2.2, y.1.1⟩) ?_
          exact yes w
        · have w2 : okq hs m one p (l x) = false := by
            cases q : okq hs m one p (l x) with
            | false => rfl
            | true => exact absurd q w
          exact T_yes (b01_0.mpr (fun z => w (okq_iff.mpr ⟨⟨z.2.2.2, hal⟩, z.1, z.2.1, z.2.2.1⟩))) (no w2)
      have al := r.2.2.2.2.2.2
      refine T_no (by omega) (T_gd (inbN (by omega) (by decide)) (T_gd ip ?_))
      rw [ixx, e46, wid (a := m 38 p) (by omega) (by omega)]
      by_cases ca : m 38 p = 0
      · exact T_yes ca (b63 (.inl ca))
      · refine T_no ca (T_gd il ?_)
        rw [ixl, e47]
        cases co : one (l x) with
        | false => exact T_yes (by decide) (b63 (.inr co))
        | true =>
          refine T_no (by decide) ?_
          unfold b_Giver_giveOne_63
          refine T_no (by decide) (no ?_)
          cases q : okq hs m one p (l x) with
          | false => rfl
          | true =>
            have y := (okq_iff.mp q).1.2
            rw [co] at y
            rcases y with y | y
            · exact absurd y ca
            · cases y
  · intro n s hI
    obtain ⟨f, i1, i2, i3, i4, i5⟩ := hI
    show T (b_Giver_giveOne_8 cp F (l_Giver_giveOne_8 cp F _ n) _ s p R) Q
    unfold b_Giver_giveOne_8
    refine T_yes (by rw [i1]; exact Int.le_refl _) (T_some (hk s best _ hbest rfl f i1 ?_ (fun q hq => ?_) i5))
    · rw [i2, Nat.min_eq_right i3]
    · have z := nthq_spec (P := fun i => okq hs m one p (l i)) (N := R) (i := q) (by omega)
      have y := i4 _ z.1 z.2.1
      rw [z.2.2] at y
      exact y
  · rw [put_c (by decide), h47 b hb]
    refine b01_b ?_
    have : givq (fun i => okq hs m one p (l i)) l 0 best b = false := by
      cases q : givq (fun i => okq hs m one p (l i)) l 0 best b with
      | false => rfl
      | true =>
        obtain ⟨i, a, _⟩ := givq_iff.mp q
        exact absurd a (Nat.not_lt_zero i)
    rw [this, Bool.or_false]
