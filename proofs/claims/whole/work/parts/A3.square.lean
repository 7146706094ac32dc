/-! the reference's square is the determinant -/
def K28 (c j : Nat) : Bool := c == 28
def EM (s : St) (col : Int) (i q : Nat) : Int := if (q : Int) = col then s 30 i else s 29 (5 * i + q)
theorem EM_cong {s t : St} (h : frs K28 s t) (col : Int) : EM t col = EM s col := funext fun i => funext fun q => by
  unfold EM
  rw [h 30 i rfl, h 29 _ rfl]
theorem USd_out {n v q : Nat} (h0 : 0 < n) (hq : n ≤ q) : ∀ i, USd n v i q = false
  | 0 => rfl
  | i + 1 => by
    show (USd n v i q || decide (q = dg n v i)) = false
    have := dg_lt h0 v i
    rw [USd_out h0 hq i]
    simp
    omega
theorem ov_le (n v : Nat) : ∀ i, ov n v i ≤ i * n
  | 0 => Nat.zero_le _
  | i + 1 => by
    have a := ov_le n v i
    have b : abv (USd n v i) n (dg n v i) ≤ n := fb_ct_le _ n
    show ov n v i + abv (USd n v i) n (dg n v i) ≤ (i + 1) * n
    rw [Nat.succ_mul]
    omega
theorem full_eq {n : Nat} (hn : n ≤ 5) : shlI 1 (n : Int) - 1 = ((2 ^ n - 1 : Nat) : Int) := by
  have : n = 0 ∨ n = 1 ∨ n = 2 ∨ n = 3 ∨ n = 4 ∨ n = 5 := by omega
  rcases this with h | h | h | h | h | h <;> subst h <;> decide
theorem full_lt {n : Nat} (hn : n ≤ 5) : 2 ^ n ≤ 32 := Nat.pow_le_pow_right (n := 2) (by omega) hn
theorem bt_full {n : Nat} (hn : n ≤ 5) (q : Nat) : bt ((2 ^ n - 1 : Nat) : Int) q = decide (q < n) := by
  unfold bt
  have := full_lt hn
  rw [nv_nat (by omega), Nat.testBit_two_pow_sub_one]
theorem full_iff {n : Nat} (hn : n ≤ 5) {x8 : Int} {U : Nat → Bool} (h : ∀ q, q < 32 → bt x8 q = U q) (ho : ∀ q, n ≤ q → U q = false) : w32 x8 = w32 (shlI 1 (n : Int) - 1) ↔ ∀ q, q < n → U q = segq n q := by
  rw [full_eq hn]
  constructor
  · intro e q hq
    have z := nv_of_w32 e
    rw [← h q (by omega)]
    unfold bt
    rw [z]
    exact bt_full hn q
  · intro e
    refine w32_of_nv (bt_ext (fun k hk => ?_))
    rw [h k hk, bt_full hn]
    by_cases c : k < n
    · rw [e k c]; rfl
    · rw [ho k (by omega)]; simp [c]
theorem sq_88 {F n d : Nat} (hn : n ≤ 5) {s : St} {x1 x3 x5 x6 x7 x8 x9 x10 : Int} {k112 : St → Int → Int → Int → Int → Int → Int → Int → Int → Int → Option (Int × St)} {P : Int × St → Prop} (hd : d < n) (hk : T (k112 s x1 n x3 x5 x6 x7 x8 (x9 + ((abv (bt x8) n d : Nat) : Int)) x10) P) (hF : 10 ≤ F) : T (l_M_square_88 F k112 F s x1 n x3 x5 x6 x7 x8 x9 x10 ((d : Int) + 1)) P := by
  refine loopG (l := fun m (v : Int) x => l_M_square_88 F k112 m s x1 n x3 x5 x6 x7 x8 v x10 (x : Nat)) (N := n) (I := fun x v => d < x ∧ v = x9 + ((fb_ct (fun p => bt x8 p && decide (d < p)) x : Nat) : Int)) (G := fun r => T r P) ?_ ?_ (n - (d + 1)) (d + 1) F x9 (by omega) (by omega) ⟨by omega, ?_⟩
  · intro m x v hx hI next
    obtain ⟨c, hI⟩ := hI
    show T (b_M_square_88 F (l_M_square_88 F k112 m) k112 s x1 n x3 x5 x6 x7 x8 v x10 x) P
    unfold b_M_square_88
    refine T_no (by rw [wnat (by omega), wnat (by omega)]; omega) ?_
    rw [bitat x8 (by omega)]
    refine next _ ⟨by omega, ?_⟩
    rw [fb_ct_succ, hI]
    cases e : bt x8 x with
    | false => simp [b01]
    | true => simp [b01, c]; omega
  · intro m v hI
    show T (b_M_square_88 F (l_M_square_88 F k112 m) k112 s x1 n x3 x5 x6 x7 x8 v x10 n) P
    unfold b_M_square_88
    refine T_yes (Int.le_refl _) ?_
    rw [hI.2]
    exact hk
  · rw [fb_ct_zero.mpr (fun p hp => by
      have : ¬ d < p := by omega
      simp [this])]
    simp
theorem sq_164 {F n v : Nat} (h1 : 0 < n) (hn : n ≤ 5) {s : St} {col x3 x5 x6 : Int} (hc : -1 ≤ col ∧ col < 5) (ho : ∀ i, i < n → s 28 i = ((dg n v i : Nat) : Int)) {g : Int} {k219 : St → Int → Int → Int → Int → Int → Int → Option (Int × St)} {P : Int × St → Prop} (hk : T (k219 s col n x3 x5 x6 (g * prq (EM s col) n v n)) P) (hF : 10 ≤ F) : T (l_M_square_164 F k219 F s col n x3 x5 x6 g 0) P := by
  refine loopG (l := fun m (p : Int) x => l_M_square_164 F k219 m s col n x3 x5 x6 p (x : Nat)) (N := n) (I := fun x p => p = g * prq (EM s col) n v x) (G := fun r => T r P) ?_ ?_ n 0 F g (by omega) (by omega) (by show g = g * 1; omega)
  · intro m x p hx hI next
    show T (b_M_square_164 F (l_M_square_164 F k219 m) k219 s col n x3 x5 x6 p x) P
    unfold b_M_square_164
    have ixx : ix (x : Int) = x := ix_nat (by omega)
    have ib : inb (x : Int) 5 := inbN (by omega) (by decide)
    have dl := dg_lt h1 v x
    refine T_no (by rw [wnat (by omega), wnat (by omega)]; omega) (T_gd ib ?_)
    rw [ixx, ho x hx, wnat (by omega), wid (by omega) (by omega)]
    have st : prq (EM s col) n v (x + 1) = prq (EM s col) n v x * EM s col x (dg n v x) := rfl
    by_cases c : ((dg n v x : Nat) : Int) = col
    · refine T_yes c (T_gd ib (next _ ?_))
      rw [st, hI, Int.mul_assoc]
      unfold EM
      rw [if_pos c]
    · have e : 5 * (x : Int) + ((dg n v x : Nat) : Int) = ((5 * x + dg n v x : Nat) : Int) := by omega
      rw [e, ix_nat (by omega)]
      refine T_no c (T_gd ib (T_gd (inbN (by omega) (by decide)) (next _ ?_)))
      rw [st, hI, Int.mul_assoc]
      unfold EM
      rw [if_neg c]
  · intro m p hI
    show T (b_M_square_164 F (l_M_square_164 F k219 m) k219 s col n x3 x5 x6 p n) P
    unfold b_M_square_164
    refine T_yes (Int.le_refl _) ?_
    rw [hI]
    exact hk
theorem sq_54 {F n v : Nat} (h1 : 0 < n) (hn : n ≤ 5) (hv : v < 4000) {s0 : St} {x1 x3 x5 : Int} {k132 : St → Int → Int → Int → Int → Int → Int → Int → Option (Int × St)} {P : Int × St → Prop} (hk : ∀ s x8, frs K28 s0 s → (∀ j, j < n → s 28 j = ((dg n v j : Nat) : Int)) → (∀ q, q < 32 → bt x8 q = USd n v n q) → T (k132 s x1 n x3 x5 v x8 ((ov n v n : Nat) : Int)) P) (hF : 10 ≤ F) : T (l_M_square_54 F k132 F s0 x1 n x3 x5 v v 0 0 0) P := by
  refine loopG (l := fun m (a : St × Int × Int × Int) x => l_M_square_54 F k132 m a.1 x1 n x3 x5 v a.2.1 a.2.2.1 a.2.2.2 (x : Nat)) (N := n) (I := fun i a => frs K28 s0 a.1 ∧ (∀ j, j < i → a.1 28 j = ((dg n v j : Nat) : Int)) ∧ a.2.1 = ((v / n ^ i : Nat) : Int) ∧ (∀ q, q < 32 → bt a.2.2.1 q = USd n v i q) ∧ a.2.2.2 = ((ov n v i : Nat) : Int)) (G := fun r => T r P) ?_ ?_ n 0 F (s0, ((v : Int), ((0 : Int), (0 : Int)))) (by omega) (by omega) ⟨frs_refl _ _, fun j hj => absurd hj (Nat.not_lt_zero j), by show (v : Int) = ((v / n ^ 0 : Nat) : Int); rw [Nat.pow_zero, Nat.div_one], fun q _ => bt_0 q, rfl⟩
  · intro m x a hx hI next
    obtain ⟨s, x7, x8, x9⟩ := a
    obtain ⟨i1, i2, i3, i4, i5⟩ := hI
    simp only at i1 i2 i3 i4 i5
    show T (b_M_square_54 F (l_M_square_54 F k132 m) k132 s x1 n x3 x5 v x7 x8 x9 x) P
    unfold b_M_square_54
    have ixx : ix (x : Int) = x := ix_nat (by omega)
    have ib : inb (x : Int) 5 := inbN (by omega) (by decide)
    have dl := dg_lt h1 v x
    have nz : ¬ w32 (n : Int) = 0 := by rw [wnat (by omega)]; omega
    have bd : v / n ^ x < 2147483648 := Nat.lt_of_le_of_lt (Nat.div_le_self _ _) (by omega)
    refine T_no (by rw [wnat (by omega), wnat (by omega)]; omega) (T_gd nz (T_gd ib ?_))
    rw [i3, remI_nat bd h1 (by omega), divI_nat bd h1 (by omega), ixx]
    refine T_gd nz (T_gd ib ?_)
    show T (l_M_square_88 F (fun s7 x1_8 x2_9 x3_10 x5_11 x6_12 x7_13 x8_14 x9_15 x10_16 => gd (inb x10_16 5) (l_M_square_54 F k132 m s7 x1_8 x2_9 x3_10 x5_11 x6_12 x7_13 (orI x8_14 (shlI 1 (s7 28 (ix x10_16)))) x9_15 (x10_16 + 1))) F (put s 28 x ((dg n v x : Nat) : Int)) x1 n x3 x5 v ((v / n ^ x / n : Nat) : Int) x8 x9 x (put s 28 x ((dg n v x : Nat) : Int) 28 x + 1)) P
    rw [put_eq]
    refine sq_88 hn dl (T_gd ib ?_) hF
    rw [ixx, put_eq]
    refine next (put s 28 x ((dg n v x : Nat) : Int), ((v / n ^ x / n : Nat) : Int), orI x8 (shlI 1 ((dg n v x : Nat) : Int)), x9 + ((abv (bt x8) n (dg n v x) : Nat) : Int)) ⟨frs_put i1 rfl, fun j hj => ?_, ?_, fun q hq => ?_, ?_⟩
    · show put s 28 x ((dg n v x : Nat) : Int) 28 j = _
      rw [put_at]
      by_cases c : j = x
      · rw [if_pos c, c]
      · rw [if_neg c]; exact i2 j (by omega)
    · show ((v / n ^ x / n : Nat) : Int) = _
      rw [Nat.div_div_eq_div_mul, ← Nat.pow_succ]
    · show bt (orI x8 (shlI 1 ((dg n v x : Nat) : Int))) q = (USd n v x q || decide (q = dg n v x))
      rw [bt_or, bt_bit (by omega) hq, i4 q hq]
    · show x9 + ((abv (bt x8) n (dg n v x) : Nat) : Int) = ((ov n v x + abv (USd n v x) n (dg n v x) : Nat) : Int)
      have e : abv (bt x8) n (dg n v x) = abv (USd n v x) n (dg n v x) := fb_ct_cong (fun p hp => by rw [i4 p (by omega)])
      rw [e, i5]
      omega
  · intro m a hI
    obtain ⟨s, x7, x8, x9⟩ := a
    obtain ⟨i1, i2, i3, i4, i5⟩ := hI
    simp only at i1 i2 i3 i4 i5
    show T (b_M_square_54 F (l_M_square_54 F k132 m) k132 s x1 n x3 x5 v x7 x8 x9 n) P
    unfold b_M_square_54
    refine T_yes (Int.le_refl _) ?_
    rw [i5]
    exact hk s x8 i1 i2 i4
theorem pow_self_le {n : Nat} (hn : n ≤ 5) : n ^ n ≤ 3125 := by
  have : n = 0 ∨ n = 1 ∨ n = 2 ∨ n = 3 ∨ n = 4 ∨ n = 5 := by omega
  rcases this with h | h | h | h | h | h <;> subst h <;> decide
theorem square_eq {F n : Nat} {s0 : St} {col : Int} (h1 : 0 < n) (hn : n ≤ 5) (e0 : s0 0 39 = n) (hc : -1 ≤ col ∧ col < 5) (hF : 4000 ≤ F) : T (f_M_square F s0 col) (fun q => q.1 = DT (EM s0 col) n n (segq n) ∧ frs K28 s0 q.2) := by
  have hp := pow_self_le hn
  unfold f_M_square
  rw [e0]
  refine loopG (l := fun m (v : Int) x => l_M_square_13 F (fun s1 x1_2 x2_3 x3_4 x5_5 => l_M_square_34 F (fun s6 x3_7 => some (x3_7, s6)) F s1 x1_2 x2_3 x3_4 x5_5 0) m s0 col n 0 v (x : Nat)) (N := n) (I := fun x v => v = ((n ^ x : Nat) : Int)) (G := fun r => T r _) ?_ ?_ n 0 F 1 (by omega) (by omega) rfl
  · intro m x v hx hI next
    show T (b_M_square_13 F (l_M_square_13 F _ m) _ s0 col n 0 v x) _
    unfold b_M_square_13
    refine T_no (by rw [wnat (by omega), wnat (by omega)]; omega) (next _ ?_)
    rw [hI, Nat.pow_succ, Int.natCast_mul]
  · intro m v hI
    show T (b_M_square_13 F (l_M_square_13 F _ m) _ s0 col n 0 v n) _
    unfold b_M_square_13
    refine T_yes (Int.le_refl _) ?_
    rw [hI]
    refine loopG (l := fun m (a : St × Int) x => l_M_square_34 F (fun s6 x3_7 => some (x3_7, s6)) m a.1 col n a.2 ((n ^ n : Nat) : Int) (x : Nat)) (N := n ^ n) (I := fun x a => frs K28 s0 a.1 ∧ a.2 = fb_si (gt1 (EM s0 col) n n (segq n)) x) (G := fun r => T r _) ?_ ?_ (n ^ n) 0 F (s0, (0 : Int)) (by omega) (by omega) ⟨frs_refl _ _, rfl⟩
    · intro m x a hx hI next
      obtain ⟨s, x3⟩ := a
      obtain ⟨i1, i2⟩ := hI
      simp only at i1 i2
      show T (b_M_square_34 F (l_M_square_34 F _ m) _ s col n x3 ((n ^ n : Nat) : Int) x) _
      unfold b_M_square_34
      refine T_no (by rw [wnat (by omega), wnat (by omega)]; omega) ?_
      refine sq_54 h1 hn (by omega) (fun t x8 f1 f2 f3 => ?_) (by omega)
      have fi := full_iff hn f3 (fun q hq => USd_out h1 hq n)
      have fr := frs_trans i1 f1
      have ol := ov_le n x n
      have ol2 : n * n ≤ 5 * 5 := Nat.mul_le_mul hn hn
      by_cases c : ∀ q, q < n → USd n x n q = segq n q
      · refine T_yes (fi.mpr c) (T_gd (by decide) ?_)
        rw [show (2 : Int) = ((2 : Nat) : Int) from rfl, remI_nat (by omega) (by decide) (by decide), wnat (by omega)]
        have g1 : gt1 (EM s0 col) n n (segq n) x = sgq (ov n x n) * prq (EM s0 col) n x n := if_pos c
        by_cases c2 : ov n x n % 2 = 0
        · refine T_yes (by omega) (sq_164 h1 hn hc f2 (next (t, x3 + 1 * prq (EM t col) n x n) ⟨fr, ?_⟩) (by omega))
          show x3 + 1 * prq (EM t col) n x n = _
          rw [EM_cong fr, i2, fb_si_succ, g1]
          unfold sgq
          rw [if_pos c2]
        · refine T_no (by omega) (sq_164 h1 hn hc f2 (next (t, x3 + (-1) * prq (EM t col) n x n) ⟨fr, ?_⟩) (by omega))
          show x3 + (-1) * prq (EM t col) n x n = _
          rw [EM_cong fr, i2, fb_si_succ, g1]
          unfold sgq
          rw [if_neg c2]
      · refine T_no (fun q => c (fi.mp q)) (next (t, x3) ⟨fr, ?_⟩)
        show x3 = _
        rw [i2, fb_si_succ, show gt1 (EM s0 col) n n (segq n) x = 0 from if_neg c, Int.add_zero]
    · intro m a hI
      obtain ⟨s, x3⟩ := a
      obtain ⟨i1, i2⟩ := hI
      simp only at i1 i2
      show T (b_M_square_34 F (l_M_square_34 F _ m) _ s col n x3 ((n ^ n : Nat) : Int) ((n ^ n : Nat) : Int)) _
      unfold b_M_square_34
      refine T_yes (Int.le_refl _) (T_some ⟨?_, i1⟩)
      show x3 = _
      rw [i2]
      exact G_eq (EM s0 col) h1 n (segq n) (fb_ct_all.mpr (fun k hk => by unfold segq; simp [hk]))
