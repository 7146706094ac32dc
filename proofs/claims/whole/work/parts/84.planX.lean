/-! the class's plan: rows of bits -/
def pX (nb nj : Nat) (s : St) : Pl := fun b j => decide (b < nb) && (decide (j < nj) && bt (s 14 b) j)
def XC (nb nj : Nat) (s : St) : Prop := (∀ b, b < nb → ∀ k, k < 32 → bt (s 14 b) k = true → k < nj) ∧ (∀ j, j < nj → ∀ k, k < 32 → bt (s 15 j) k = true → k < nb) ∧ ∀ b j, b < nb → j < nj → bt (s 15 j) b = bt (s 14 b) j
def XP (nb nj L : Nat) (mo : Nat → Nat) (may : Pl) (s : St) : Prop := nb ≤ 24 ∧ nj ≤ 12 ∧ 1 ≤ L ∧ L ≤ 4 ∧ s 11 1 = nb ∧ s 11 2 = nj ∧ s 11 3 = L ∧ (∀ j, j < nj → s 12 j = mo j ∧ mo j ≤ 24) ∧ ∀ b, b < nb → ∀ k, k < 32 → bt (s 13 b) k = (decide (k < nj) && may b k)
theorem pX_in {nb nj : Nat} {s : St} {b j : Nat} (hb : b < nb) (hj : j < nj) : pX nb nj s b j = bt (s 14 b) j := by
  unfold pX
  simp [hb, hj]
theorem row_bits {nb nj : Nat} {s : St} (h : XC nb nj s) (hnj : nj ≤ 12) {b : Nat} (hb : b < nb) : fb_ct (bt (s 14 b)) 32 = rowc nj (pX nb nj s) b := by
  unfold rowc
  have head : fb_ct (pX nb nj s b) nj = fb_ct (bt (s 14 b)) nj := fb_ct_cong (fun j hj => pX_in hb hj)
  obtain ⟨d, hd⟩ : ∃ d, 32 = nj + d := ⟨32 - nj, by omega⟩
  have tail : fb_ct (fun k => bt (s 14 b) (nj + k)) d = 0 := fb_ct_zero.mpr (fun k hk => by
    cases e : bt (s 14 b) (nj + k) with
    | false => rfl
    | true => have := h.1 b hb (nj + k) (by omega) e; omega)
  rw [head, hd, fb_ct_split, tail, Nat.add_zero]
theorem col_bits {nb nj : Nat} {s : St} (h : XC nb nj s) (hnb : nb ≤ 24) {j : Nat} (hj : j < nj) : fb_ct (bt (s 15 j)) 32 = colc nb (pX nb nj s) j := by
  unfold colc
  have head : fb_ct (fun b => pX nb nj s b j) nb = fb_ct (bt (s 15 j)) nb := fb_ct_cong (fun b hb => by rw [pX_in hb hj, h.2.2 b j hb hj])
  obtain ⟨d, hd⟩ : ∃ d, 32 = nb + d := ⟨32 - nb, by omega⟩
  have tail : fb_ct (fun k => bt (s 15 j) (nb + k)) d = 0 := fb_ct_zero.mpr (fun k hk => by
    cases e : bt (s 15 j) (nb + k) with
    | false => rfl
    | true => have := h.2.1 j hj (nb + k) (by omega) e; omega)
  rw [head, hd, fb_ct_split, tail, Nat.add_zero]
theorem lacks_eq {nb nj L : Nat} {mo : Nat → Nat} {may : Pl} {s : St} (hP : XP nb nj L mo may s) (h : XC nb nj s) {b : Nat} (hb : b < nb) : f_Plan_lacks s b = some (b01 (rowc nj (pX nb nj s) b < L), s) := by
  obtain ⟨d1, d2, d3, d4, d5, d6, d7, d8, d9⟩ := hP
  unfold f_Plan_lacks
  rw [gd_yes (inbN (show b < 24 by omega) (by decide)), ix_nat (by omega), bitCount_eq]
  show (if w32 (s 11 3) ≤ w32 ((fb_ct (bt (s 14 b)) 32 : Nat) : Int) then some (0, s) else some (1, s)) = _
  have hc : fb_ct (bt (s 14 b)) 32 ≤ 32 := fb_ct_le _ 32
  rw [d7, wnat (by omega), wnat (by omega), row_bits h d2 hb]
  rw [row_bits h d2 hb] at hc
  by_cases c : rowc nj (pX nb nj s) b < L
  · rw [if_neg (by omega), b01_of c]
  · rw [if_pos (by omega), b01_not c]
theorem hasRoom_eq {nb nj L : Nat} {mo : Nat → Nat} {may : Pl} {s : St} (hP : XP nb nj L mo may s) (h : XC nb nj s) {j : Nat} (hj : j < nj) : f_Plan_hasRoom s j = some (b01 (colc nb (pX nb nj s) j < mo j), s) := by
  obtain ⟨d1, d2, d3, d4, d5, d6, d7, d8, d9⟩ := hP
  unfold f_Plan_hasRoom
  rw [gd_yes (inbN (show j < 12 by omega) (by decide)), ix_nat (by omega), bitCount_eq]
  show gd (inb (j : Int) 12) (if w32 (s 12 j) ≤ w32 ((fb_ct (bt (s 15 j)) 32 : Nat) : Int) then some (0, s) else some (1, s)) = _
  have hc : fb_ct (bt (s 15 j)) 32 ≤ 32 := fb_ct_le _ 32
  have hm := d8 j hj
  rw [gd_yes (inbN (show j < 12 by omega) (by decide)), hm.1, wnat (by omega), wnat (by omega), col_bits h d1 hj]
  rw [col_bits h d1 hj] at hc
  by_cases c : colc nb (pX nb nj s) j < mo j
  · rw [if_neg (by omega), b01_of c]
  · rw [if_pos (by omega), b01_not c]
def XK45 (c j : Nat) : Bool := c == 14 || c == 15
theorem bt_clr (x : Int) {j k : Nat} (hj : j < 32) (hk : k < 32) : bt (andI x (xorI (shlI 1 j) (-1))) k = (bt x k && !decide (k = j)) := by
  rw [bt_and, bt_not _ hk, bt_bit hj hk]
theorem bt_set (x : Int) {j k : Nat} (hj : j < 32) (hk : k < 32) : bt (orI x (shlI 1 j)) k = (bt x k || decide (k = j)) := by
  rw [bt_or, bt_bit hj hk]
theorem change_eq {nb nj : Nat} {s t : St} (h : XC nb nj s) (hnb : nb ≤ 24) (hnj : nj ≤ 12) {b j : Nat} (hb : b < nb) (hj : j < nj) (v : Bool) (h14 : ∀ b2, t 14 b2 = if b2 = b then t 14 b else s 14 b2) (h15 : ∀ j2, t 15 j2 = if j2 = j then t 15 j else s 15 j2) (a1 : ∀ k, k < 32 → bt (t 14 b) k = if k = j then v else bt (s 14 b) k) (a2 : ∀ k, k < 32 → bt (t 15 j) k = if k = b then v else bt (s 15 j) k) : XC nb nj t ∧ pX nb nj t = upl (pX nb nj s) b j v := by
  have e14 : ∀ b2 k, k < 32 → bt (t 14 b2) k = if b2 = b ∧ k = j then v else bt (s 14 b2) k := by
    intro b2 k hk
    by_cases e : b2 = b
    · rw [e, a1 k hk]
      by_cases e2 : k = j
      · rw [if_pos e2, if_pos ⟨rfl, e2⟩]
      · rw [if_neg e2, if_neg (fun z => e2 z.2)]
    · rw [h14, if_neg e, if_neg (fun z => e z.1)]
  have e15 : ∀ j2 k, k < 32 → bt (t 15 j2) k = if j2 = j ∧ k = b then v else bt (s 15 j2) k := by
    intro j2 k hk
    by_cases e : j2 = j
    · rw [e, a2 k hk]
      by_cases e2 : k = b
      · rw [if_pos e2, if_pos ⟨rfl, e2⟩]
      · rw [if_neg e2, if_neg (fun z => e2 z.2)]
    · rw [h15, if_neg e, if_neg (fun z => e z.1)]
  refine ⟨⟨fun b2 hb2 k hk q => ?_, fun j2 hj2 k hk q => ?_, fun b2 j2 hb2 hj2 => ?_⟩, ?_⟩
  · rw [e14 b2 k hk] at q
    by_cases e : b2 = b ∧ k = j
    · omega
    · rw [if_neg e] at q; exact h.1 b2 hb2 k hk q
  · rw [e15 j2 k hk] at q
    by_cases e : j2 = j ∧ k = b
    · omega
    · rw [if_neg e] at q; exact h.2.1 j2 hj2 k hk q
  · rw [e14 b2 j2 (by omega), e15 j2 b2 (by omega)]
    by_cases e : b2 = b ∧ j2 = j
    · rw [if_pos e, if_pos ⟨e.2, e.1⟩]
    · rw [if_neg e, if_neg (fun z => e ⟨z.2, z.1⟩)]
      exact h.2.2 b2 j2 hb2 hj2
  · funext b2 j2
    unfold pX upl
    by_cases hb2 : b2 < nb
    · by_cases hj2 : j2 < nj
      · rw [e14 b2 j2 (by omega)]
        by_cases e : b2 = b ∧ j2 = j
        · rw [if_pos e, if_pos e]; simp [hb2, hj2]
        · rw [if_neg e, if_neg e]
      · rw [if_neg (by omega)]; simp [hj2]
    · rw [if_neg (by omega)]; simp [hb2]
theorem join_pl {nb nj : Nat} {s : St} (h : XC nb nj s) (hnb : nb ≤ 24) (hnj : nj ≤ 12) {b j : Nat} (hb : b < nb) (hj : j < nj) : ∃ t, f_Plan_join s b j = some t ∧ frs XK45 s t ∧ XC nb nj t ∧ pX nb nj t = upl (pX nb nj s) b j true := by
  have i1 : inb (b : Int) 24 := inbN (by omega) (by decide)
  have i2 : inb (j : Int) 12 := inbN (by omega) (by decide)
  have e1 : ix (b : Int) = b := ix_nat (by omega)
  have e2 : ix (j : Int) = j := ix_nat (by omega)
  have e : f_Plan_join s b j = some (put (put s 14 b (orI (s 14 b) (shlI 1 j))) 15 j (orI (s 15 j) (shlI 1 b))) := by
    unfold f_Plan_join
    simp only [e1, e2, gd_yes i1, gd_yes i2, put_c (show (15 : Nat) ≠ 14 by decide)]
  refine ⟨_, e, frs_put (frs_put (frs_refl _ _) rfl) rfl, ?_⟩
  refine change_eq h hnb hnj hb hj true (fun b2 => ?_) (fun j2 => ?_) (fun k hk => ?_) (fun k hk => ?_)
  · rw [put_c (show (14 : Nat) ≠ 15 by decide), put_c (show (14 : Nat) ≠ 15 by decide), put_at, put_eq]
  · rw [put_at, put_eq, put_c (show (15 : Nat) ≠ 14 by decide)]
  · rw [put_c (show (14 : Nat) ≠ 15 by decide), put_eq, bt_set _ (by omega) hk]
    by_cases q : k = j <;> simp [q]
  · rw [put_eq, bt_set _ (by omega) hk]
    by_cases q : k = b <;> simp [q]
theorem part_pl {nb nj : Nat} {s : St} (h : XC nb nj s) (hnb : nb ≤ 24) (hnj : nj ≤ 12) {b j : Nat} (hb : b < nb) (hj : j < nj) : ∃ t, f_Plan_part s b j = some t ∧ frs XK45 s t ∧ XC nb nj t ∧ pX nb nj t = upl (pX nb nj s) b j false := by
  have i1 : inb (b : Int) 24 := inbN (by omega) (by decide)
  have i2 : inb (j : Int) 12 := inbN (by omega) (by decide)
  have e1 : ix (b : Int) = b := ix_nat (by omega)
  have e2 : ix (j : Int) = j := ix_nat (by omega)
  have e : f_Plan_part s b j = some (put (put s 14 b (andI (s 14 b) (xorI (shlI 1 j) (-1)))) 15 j (andI (s 15 j) (xorI (shlI 1 b) (-1)))) := by
    unfold f_Plan_part
    simp only [e1, e2, gd_yes i1, gd_yes i2, put_c (show (15 : Nat) ≠ 14 by decide)]
  refine ⟨_, e, frs_put (frs_put (frs_refl _ _) rfl) rfl, ?_⟩
  refine change_eq h hnb hnj hb hj false (fun b2 => ?_) (fun j2 => ?_) (fun k hk => ?_) (fun k hk => ?_)
  · rw [put_c (show (14 : Nat) ≠ 15 by decide), put_c (show (14 : Nat) ≠ 15 by decide), put_at, put_eq]
  · rw [put_at, put_eq, put_c (show (15 : Nat) ≠ 14 by decide)]
  · rw [put_c (show (14 : Nat) ≠ 15 by decide), put_eq, bt_clr _ (by omega) hk]
    by_cases q : k = j <;> simp [q]
  · rw [put_eq, bt_clr _ (by omega) hk]
    by_cases q : k = b <;> simp [q]
/-! what is open -/
def opn (OB OJ : Nat) (b j : Nat) : Bool := decide (OB < b) || (decide (b = OB) && decide (OJ ≤ j))
theorem opn_f {OB OJ b j : Nat} : opn OB OJ b j = false ↔ BEF b j OB OJ := by
  unfold opn BEF
  by_cases h1 : OB < b
  · simp [h1]; omega
  · by_cases h2 : b = OB
    · simp [h2]
    · simp [h1, h2]; omega
theorem openJ_eq {s : St} {OB OJ b : Nat} (h9 : s 11 9 = OB) (h10 : s 11 10 = OJ) (hOB : OB ≤ 24) (hOJ : OJ ≤ 12) (hb : b < 24) : ∃ v, f_Plan_openJudges s b = some (v, s) ∧ ∀ k, k < 32 → bt v k = opn OB OJ b k := by
  unfold f_Plan_openJudges
  rw [h9, h10, wnat (show OB < 2147483648 by omega), wnat (show b < 2147483648 by omega)]
  unfold opn
  by_cases c1 : OB ≤ b
  · rw [if_pos (by omega)]
    by_cases c2 : b ≤ OB
    · rw [if_pos (by omega)]
      refine ⟨_, rfl, fun k hk => ?_⟩
      rw [bt_high (by omega) hk]
      simp [show ¬ OB < b by omega, show b = OB by omega]
    · rw [if_neg (by omega)]
      refine ⟨_, rfl, fun k hk => ?_⟩
      rw [bt_m1]
      simp [hk, show OB < b by omega]
  · rw [if_neg (by omega)]
    refine ⟨_, rfl, fun k hk => ?_⟩
    rw [bt_0]
    simp [show ¬ OB < b by omega, show ¬ b = OB by omega]
theorem openB_eq {s : St} {OB OJ j : Nat} (h9 : s 11 9 = OB) (h10 : s 11 10 = OJ) (hOB : OB ≤ 24) (hOJ : OJ ≤ 12) (hj : j < 12) : ∃ v, f_Plan_openBoards s j = some (v, s) ∧ ∀ k, k < 32 → bt v k = opn OB OJ k j := by
  unfold f_Plan_openBoards
  rw [h9, h10, wnat (show OJ < 2147483648 by omega), wnat (show j < 2147483648 by omega)]
  unfold opn
  by_cases c1 : OJ ≤ j
  · rw [if_pos (by omega)]
    refine ⟨_, rfl, fun k hk => ?_⟩
    rw [bt_high (by omega) hk]
    simp only [c1, decide_true, Bool.and_true]
    by_cases c2 : OB < k
    · simp [c2]; omega
    · by_cases c3 : k = OB
      · simp [c3]
      · simp [c2, c3]; omega
  · rw [if_neg (by omega), show (OB : Int) + 1 = ((OB + 1 : Nat) : Int) by omega]
    refine ⟨_, rfl, fun k hk => ?_⟩
    rw [bt_high (by omega) hk]
    simp only [c1, decide_false, Bool.and_false, Bool.or_false]
    apply decide_eq_decide.mpr
    omega
/-! the lowest bit -/
theorem low_and {N k v : Nat} (hN : N = 2 ^ k * (2 * v + 1)) (hlt : N < 4294967296) : N &&& (4294967296 - N) = 2 ^ k := by
  have hpos : 0 < 2 ^ k := Nat.two_pow_pos k
  have h1 : 1 ≤ N := by rw [hN]; exact Nat.mul_pos hpos (by omega)
  have eM : 4294967296 - N = 2 ^ 32 - ((N - 1) + 1) := by omega
  have eN1 : N - 1 = 2 ^ (k + 1) * v + (2 ^ k - 1) := by
    have : N = 2 ^ (k + 1) * v + 2 ^ k := by
      rw [hN, Nat.pow_succ, Nat.mul_add, Nat.mul_one, Nat.mul_assoc]
    omega
  have eN : N = 2 ^ (k + 1) * v + 2 ^ k := by omega
  apply Nat.eq_of_testBit_eq
  intro i
  rw [Nat.testBit_and, eM, Nat.testBit_two_pow_sub_succ (by omega), Nat.testBit_two_pow]
  have t1 : N.testBit i = if i < k + 1 then (2 ^ k).testBit i else v.testBit (i - (k + 1)) := by
    rw [eN, Nat.testBit_two_pow_mul_add _ (show 2 ^ k < 2 ^ (k + 1) by rw [Nat.pow_succ]; omega)]
  have t2 : (N - 1).testBit i = if i < k + 1 then (2 ^ k - 1).testBit i else v.testBit (i - (k + 1)) := by
    rw [eN1, Nat.testBit_two_pow_mul_add _ (show 2 ^ k - 1 < 2 ^ (k + 1) by rw [Nat.pow_succ]; omega)]
  rw [t1, t2]
  have hk32 : k < 32 := by
    rcases Nat.lt_or_ge k 32 with h | h
    · exact h
    · have h2 : 2 ^ 32 ≤ 2 ^ k := Nat.pow_le_pow_right (by decide) h
      have h3 : 2 ^ k * 1 ≤ N := by rw [hN]; exact Nat.mul_le_mul_left _ (by omega)
      omega
  by_cases hi : i < k + 1
  · rw [if_pos hi, if_pos hi, Nat.testBit_two_pow, Nat.testBit_two_pow_sub_one]
    by_cases e : i = k
    · subst e; simp [hk32]
    · simp [show ¬ k = i by omega]
  · rw [if_neg hi, if_neg hi, decide_eq_false (show ¬ k = i by omega)]
    cases v.testBit (i - (k + 1)) with
    | false => rfl
    | true => simp
theorem low_form {N : Nat} {k : Nat} (hk : N.testBit k = true) (hl : ∀ i, i < k → N.testBit i = false) : ∃ v, N = 2 ^ k * (2 * v + 1) := by
  have h1 : N % 2 ^ k = 0 := by
    apply Nat.eq_of_testBit_eq
    intro i
    rw [Nat.testBit_mod_two_pow, Nat.zero_testBit]
    by_cases h : i < k
    · rw [hl i h]; simp
    · simp [h]
  have h2 : N / 2 ^ k % 2 = 1 := by
    rw [Nat.testBit_eq_decide_div_mod_eq] at hk
    exact of_decide_eq_true hk
  refine ⟨N / 2 ^ k / 2, ?_⟩
  have h3 := Nat.div_add_mod N (2 ^ k)
  rw [h1, Nat.add_zero] at h3
  have h4 : N / 2 ^ k = 2 * (N / 2 ^ k / 2) + 1 := by omega
  rw [← h4]
  exact h3.symm
theorem lowest_eq (s : St) (x : Int) : (f_H_lowestBit s x = some (-1, s) ∧ ∀ k, k < 32 → bt x k = false) ∨ ∃ k : Nat, k < 32 ∧ f_H_lowestBit s x = some ((k : Int), s) ∧ bt x k = true := by
  unfold f_H_lowestBit
  by_cases c : w32 x = 0
  · left
    rw [if_pos c]
    refine ⟨rfl, fun k hk => ?_⟩
    have e : nv x = nv 0 := nv_of_w32 (by rw [c]; decide)
    unfold bt
    rw [e]
    exact bt_0 k
  · right
    rw [if_neg c]
    have hex : ∃ i, i < 32 ∧ bt x i = true := by
      apply Decidable.byContradiction
      intro hn
      apply c
      have e : nv x = nv 0 := bt_ext (fun k hk => by
        rw [bt_0]
        cases e : bt x k with
        | false => rfl
        | true => exact absurd ⟨k, hk, e⟩ hn)
      rw [w32_of_nv e]
      decide
    obtain ⟨k, k1, k2, k3⟩ := fb_first hex
    refine ⟨k, k1, ?_, k2⟩
    obtain ⟨v, hv⟩ := low_form (N := nv x) k2 (fun i hi => by
      have := k3 i hi
      cases e : (nv x).testBit i with
      | false => rfl
      | true => exact absurd e this)
    have hneg : nv (-x) = 4294967296 - nv x := by
      have h1 := nv_eq x
      have h2 := nv_eq (-x)
      have h3 : 1 ≤ nv x := by rw [hv]; exact Nat.mul_pos (Nat.two_pow_pos k) (by omega)
      omega
    have hand : nv (andI x (-x)) = 2 ^ k := by rw [nv_and, hneg]; exact low_and hv (nv_lt x)
    have hpk : 2 ^ k ≤ 2 ^ 31 := Nat.pow_le_pow_right (by decide) (by omega)
    have hpos : 0 < 2 ^ k := Nat.two_pow_pos k
    have hm : nv (andI x (-x) - 1) = 2 ^ k - 1 := by
      rw [nv_sub, hand, show nv 1 = 1 by decide]
      omega
    rw [bitCount_eq]
    have hct : fb_ct (bt (andI x (-x) - 1)) 32 = k := by
      have e1 : fb_ct (bt (andI x (-x) - 1)) 32 = fb_ct (fun i => decide (i < k) && true) 32 := fb_ct_cong (fun i _ => by
        unfold bt
        rw [hm, Nat.testBit_two_pow_sub_one]
        simp)
      rw [e1, ct_cut (p := fun _ => true) (show k ≤ 32 by omega)]
      exact fb_ct_all.mpr (fun _ _ => rfl)
    rw [hct]
    rfl
