/-! bits of 32-bit numbers -/
def nv (a : Int) : Nat := (Int32.ofInt a).toBitVec.toNat
def bt (a : Int) (k : Nat) : Bool := (nv a).testBit k
theorem nv_eq (a : Int) : nv a = (a % 4294967296).toNat := by
  unfold nv
  rw [Int32.toBitVec_ofInt, BitVec.toNat_ofInt]
  rfl
theorem nv_lt (a : Int) : nv a < 4294967296 := by
  rw [nv_eq]
  omega
theorem nv_nat {n : Nat} (h : n < 4294967296) : nv (n : Int) = n := by
  rw [nv_eq]
  omega
theorem nv_neg1 : nv (-1) = 4294967295 := by decide
theorem nv_add (a b : Int) : nv (a + b) = (nv a + nv b) % 4294967296 := by
  rw [nv_eq, nv_eq, nv_eq]
  omega
theorem nv_sub (a b : Int) : nv (a - b) = (nv a + 4294967296 - nv b) % 4294967296 := by
  rw [nv_eq, nv_eq, nv_eq]
  omega
theorem w32_bmod (a : Int) : w32 a = a.bmod 4294967296 := by
  unfold w32
  rw [Int32.toInt_ofInt]
theorem w32_eq (a : Int) : w32 a = if a % 4294967296 < 2147483648 then a % 4294967296 else a % 4294967296 - 4294967296 := by
  rw [w32_bmod]
  rfl
theorem w32_nv {a : Int} (h : nv a < 2147483648) : w32 a = nv a := by
  rw [w32_eq]
  rw [nv_eq] at *
  rw [if_pos (by omega)]
  omega
theorem w32_of_nv {a b : Int} (h : nv a = nv b) : w32 a = w32 b := by
  rw [w32_eq, w32_eq]
  rw [nv_eq, nv_eq] at h
  have e : a % 4294967296 = b % 4294967296 := by omega
  rw [e]
theorem nv_of_w32 {a b : Int} (h : w32 a = w32 b) : nv a = nv b := by
  rw [w32_eq, w32_eq] at h
  rw [nv_eq, nv_eq]
  split at h <;> split at h <;> omega
theorem nv_w32 (a : Int) : nv (w32 a) = nv a := nv_of_w32 (w32_w32 a)
theorem nv_and (a b : Int) : nv (andI a b) = nv a &&& nv b := by
  unfold nv andI
  rw [Int32.ofInt_toInt, Int32.toBitVec_and, BitVec.toNat_and]
theorem nv_or (a b : Int) : nv (orI a b) = nv a ||| nv b := by
  unfold nv orI
  rw [Int32.ofInt_toInt, Int32.toBitVec_or, BitVec.toNat_or]
theorem nv_xor (a b : Int) : nv (xorI a b) = nv a ^^^ nv b := by
  unfold nv xorI
  rw [Int32.ofInt_toInt, Int32.toBitVec_xor, BitVec.toNat_xor]
theorem sh_amt : ∀ j : Nat, j < 32 → ((Int32.ofInt (j : Int)) &&& 31).toBitVec.smod 32 = BitVec.ofNat 32 j := by decide +kernel
theorem nv_shl (a : Int) {j : Nat} (hj : j < 32) : nv (shlI a j) = (nv a * 2 ^ j) % 4294967296 := by
  unfold nv shlI
  rw [Int32.ofInt_toInt, Int32.toBitVec_shiftLeft, sh_amt j hj, BitVec.shiftLeft_eq', BitVec.toNat_shiftLeft, BitVec.toNat_ofNat, Nat.mod_eq_of_lt (show j < 2 ^ 32 by omega), Nat.shiftLeft_eq]
theorem bt_and (a b : Int) (k : Nat) : bt (andI a b) k = (bt a k && bt b k) := by
  unfold bt
  rw [nv_and, Nat.testBit_and]
theorem bt_or (a b : Int) (k : Nat) : bt (orI a b) k = (bt a k || bt b k) := by
  unfold bt
  rw [nv_or, Nat.testBit_or]
theorem bt_xor (a b : Int) (k : Nat) : bt (xorI a b) k = (bt a k ^^ bt b k) := by
  unfold bt
  rw [nv_xor, Nat.testBit_xor]
theorem bt_out (a : Int) {k : Nat} (h : 32 ≤ k) : bt a k = false := by
  unfold bt
  apply Nat.testBit_lt_two_pow
  have h1 := nv_lt a
  have h2 : 2 ^ 32 ≤ 2 ^ k := Nat.pow_le_pow_right (by decide) h
  omega
theorem bt_m1 (k : Nat) : bt (-1) k = decide (k < 32) := by
  unfold bt
  rw [nv_neg1, show 4294967295 = 2 ^ 32 - 1 from rfl, Nat.testBit_two_pow_sub_one]
theorem bt_not (a : Int) {k : Nat} (h : k < 32) : bt (xorI a (-1)) k = !bt a k := by
  rw [bt_xor, bt_m1]
  simp [h]
theorem bt_0 (k : Nat) : bt 0 k = false := by
  unfold bt
  rw [show nv 0 = 0 by decide]
  exact Nat.zero_testBit k
theorem bt_shl (a : Int) {j k : Nat} (hj : j < 32) (hk : k < 32) : bt (shlI a j) k = (decide (j ≤ k) && bt a (k - j)) := by
  unfold bt
  rw [nv_shl a hj, show 4294967296 = 2 ^ 32 from rfl, Nat.testBit_mod_two_pow, Nat.mul_comm, Nat.testBit_two_pow_mul]
  simp [hk]
theorem bt_one (k : Nat) : bt 1 k = decide (k = 0) := by
  unfold bt
  rw [show nv 1 = 2 ^ 0 by decide, Nat.testBit_two_pow]
  simp [eq_comm]
theorem bt_bit {j k : Nat} (hj : j < 32) (hk : k < 32) : bt (shlI 1 j) k = decide (k = j) := by
  rw [bt_shl 1 hj hk, bt_one]
  by_cases h : k = j
  · subst h; simp
  · simp only [h, decide_false]
    by_cases h2 : j ≤ k
    · simp [show ¬ (k - j = 0) by omega]
    · simp [h2]
theorem bt_high {j k : Nat} (hj : j < 32) (hk : k < 32) : bt (shlI (-1) j) k = decide (j ≤ k) := by
  rw [bt_shl (-1) hj hk, bt_m1]
  simp [show k - j < 32 by omega]
theorem bt_ext {a b : Int} (h : ∀ k, k < 32 → bt a k = bt b k) : nv a = nv b := by
  apply Nat.eq_of_testBit_eq
  intro k
  by_cases hk : k < 32
  · exact h k hk
  · rw [show (nv a).testBit k = false from bt_out a (by omega), show (nv b).testBit k = false from bt_out b (by omega)]
theorem bt_shr (a : Int) {j : Nat} (hj : j < 32) : bt (shrI a j) 0 = bt a j := by
  show (Int32.ofInt (shrI a j)).toBitVec.getLsbD 0 = (Int32.ofInt a).toBitVec.getLsbD j
  unfold shrI
  rw [Int32.ofInt_toInt, Int32.toBitVec_shiftRight, sh_amt j hj, BitVec.sshiftRight_eq', BitVec.toNat_ofNat, Nat.mod_eq_of_lt (show j < 2 ^ 32 by omega), BitVec.getLsbD_sshiftRight]
  simp [hj]
theorem and1 (z : Int) : andI z 1 = b01 (bt z 0 = true) := by
  have h1 : nv (andI z 1) = nv z % 2 := by rw [nv_and, show nv 1 = 1 by decide, Nat.and_one_is_mod]
  have h2 : w32 (andI z 1) = ((nv z % 2 : Nat) : Int) := by rw [w32_nv (by omega), h1]
  rw [w32_andI] at h2
  rw [h2]
  unfold b01 bt
  rw [Nat.testBit_zero]
  by_cases h : nv z % 2 = 1
  · simp [h]
  · simp [show nv z % 2 = 0 by omega]
theorem bitat (x : Int) {j : Nat} (hj : j < 32) : andI (shrI x j) 1 = b01 (bt x j = true) := by
  rw [and1]
  have e := bt_shr x hj
  simp only [e]
/-! the count of bits -/
theorem and_split {a m h n : Nat} (ha : a < 256) (hm : m < 256) : (a + 256 * h) &&& (m + 256 * n) = (a &&& m) + 256 * (h &&& n) := by
  have h1 := @Nat.and_mod_two_pow (a + 256 * h) (m + 256 * n) 8
  have h2 := @Nat.and_div_two_pow (a + 256 * h) (m + 256 * n) 8
  rw [show (2 : Nat) ^ 8 = 256 from rfl] at h1 h2
  rw [show (a + 256 * h) % 256 = a by omega, show (m + 256 * n) % 256 = m by omega] at h1
  rw [show (a + 256 * h) / 256 = h by omega, show (m + 256 * n) / 256 = n by omega] at h2
  have h3 := Nat.mod_add_div ((a + 256 * h) &&& (m + 256 * n)) 256
  omega
def B4 (a b c d : Nat) : Nat := a + 256 * (b + 256 * (c + 256 * d))
theorem and4 {a b c d m : Nat} (ha : a < 256) (hb : b < 256) (hc : c < 256) (hd : d < 256) (hm : m < 256) : B4 a b c d &&& B4 m m m m = B4 (a &&& m) (b &&& m) (c &&& m) (d &&& m) := by
  unfold B4
  rw [and_split ha hm, and_split hb hm, and_split hc hm]
theorem B4_of (n : Nat) (h : n < 4294967296) : ∃ a b c d, a < 256 ∧ b < 256 ∧ c < 256 ∧ d < 256 ∧ n = B4 a b c d := by
  refine ⟨n % 256, n / 256 % 256, n / 65536 % 256, n / 16777216, by omega, by omega, by omega, by omega, ?_⟩
  unfold B4
  omega
theorem ush_amt : ((Int32.ofInt 1).toUInt32 &&& Int32.toUInt32 31).toNat % 32 = 1 ∧ ((Int32.ofInt 2).toUInt32 &&& Int32.toUInt32 31).toNat % 32 = 2 ∧ ((Int32.ofInt 4).toUInt32 &&& Int32.toUInt32 31).toNat % 32 = 4 ∧ ((Int32.ofInt 8).toUInt32 &&& Int32.toUInt32 31).toNat % 32 = 8 ∧ ((Int32.ofInt 16).toUInt32 &&& Int32.toUInt32 31).toNat % 32 = 16 := by decide +kernel
theorem nv_ush (a b : Int) {n : Nat} (hn : ((Int32.ofInt b).toUInt32 &&& Int32.toUInt32 31).toNat % 32 = n) : nv (ushrI a b) = nv a / 2 ^ n := by
  unfold nv ushrI
  rw [Int32.ofInt_toInt]
  show ((Int32.ofInt a).toUInt32 >>> ((Int32.ofInt b).toUInt32 &&& Int32.toUInt32 31)).toNat = _
  rw [UInt32.toNat_shiftRight, hn, Nat.shiftRight_eq_div_pow]
  rfl
def pc1 (x : Int) : Int := x - andI (ushrI x 1) 1431655765
def pc2 (y : Int) : Int := andI y 858993459 + andI (ushrI y 2) 858993459
def pc3 (z : Int) : Int := andI (z + ushrI z 4) 252645135
def pc4 (u : Int) : Int := u + ushrI u 8
def pc5 (v : Int) : Int := v + ushrI v 16
theorem bitCount_def (sg : St) (x : Int) : f_XJ_bitCount sg x = some (andI (pc5 (pc4 (pc3 (pc2 (pc1 x))))) 63, sg) := rfl
def p1 (a : Nat) : Nat := a - ((a / 2) &&& 85)
def p2 (a : Nat) : Nat := (a &&& 51) + ((a / 4) &&& 51)
def p3 (a : Nat) : Nat := (a + a / 16) &&& 15
def cb8 (a : Nat) : Nat := fb_ct (fun k => a.testBit k) 8
theorem p_facts : ∀ a, a < 256 → ((a / 2) &&& 85) ≤ a ∧ p1 a < 256 ∧ p2 (p1 a) % 16 ≤ 4 ∧ p2 (p1 a) / 16 ≤ 4 ∧ p3 (p2 (p1 a)) = cb8 a ∧ cb8 a ≤ 8 := by decide +kernel
theorem m85 : ∀ a, a < 256 → ∀ e, e < 2 → (a / 2 + 128 * e) &&& 85 = (a / 2) &&& 85 := by decide +kernel
theorem m51 : ∀ a, a < 256 → ∀ e, e < 4 → (a / 4 + 64 * e) &&& 51 = (a / 4) &&& 51 := by decide +kernel
theorem m15 : ∀ a, a < 256 → ∀ e, e < 5 → a % 16 ≤ 4 → a / 16 ≤ 4 → (a + (a / 16 + 16 * e)) &&& 15 = (a + a / 16) &&& 15 := by decide +kernel
theorem pc1_nv {x : Int} {a b c d : Nat} (ha : a < 256) (hb : b < 256) (hc : c < 256) (hd : d < 256) (h : nv x = B4 a b c d) : nv (pc1 x) = B4 (p1 a) (p1 b) (p1 c) (p1 d) := by
  have e1 : nv (ushrI x 1) = B4 (a / 2 + 128 * (b % 2)) (b / 2 + 128 * (c % 2)) (c / 2 + 128 * (d % 2)) (d / 2 + 128 * 0) := by
    rw [nv_ush x 1 ush_amt.1, h]
    unfold B4
    omega
  have e2 : nv (andI (ushrI x 1) 1431655765) = B4 ((a / 2) &&& 85) ((b / 2) &&& 85) ((c / 2) &&& 85) ((d / 2) &&& 85) := by
    rw [nv_and, e1, show nv 1431655765 = B4 85 85 85 85 by decide, and4 (by omega) (by omega) (by omega) (by omega) (by omega), m85 a ha _ (by omega), m85 b hb _ (by omega), m85 c hc _ (by omega), m85 d hd _ (by omega)]
  unfold pc1
  rw [nv_sub, h, e2]
  have fa := p_facts a ha
  have fb := p_facts b hb
  have fc := p_facts c hc
  have fd := p_facts d hd
  unfold p1 at *
  unfold B4
  omega
theorem and51 : ∀ a, a < 256 → a &&& 51 < 52 := by decide +kernel
theorem and15 : ∀ a, a < 256 → a &&& 15 < 16 := by decide +kernel
theorem pc2_nv {x : Int} {a b c d : Nat} (ha : a < 256) (hb : b < 256) (hc : c < 256) (hd : d < 256) (h : nv x = B4 a b c d) : nv (pc2 x) = B4 (p2 a) (p2 b) (p2 c) (p2 d) := by
  have e1 : nv (ushrI x 2) = B4 (a / 4 + 64 * (b % 4)) (b / 4 + 64 * (c % 4)) (c / 4 + 64 * (d % 4)) (d / 4 + 64 * 0) := by
    rw [nv_ush x 2 ush_amt.2.1, h]
    unfold B4
    omega
  have e2 : nv (andI (ushrI x 2) 858993459) = B4 ((a / 4) &&& 51) ((b / 4) &&& 51) ((c / 4) &&& 51) ((d / 4) &&& 51) := by
    rw [nv_and, e1, show nv 858993459 = B4 51 51 51 51 by decide, and4 (by omega) (by omega) (by omega) (by omega) (by omega), m51 a ha _ (by omega), m51 b hb _ (by omega), m51 c hc _ (by omega), m51 d hd _ (by omega)]
  have e3 : nv (andI x 858993459) = B4 (a &&& 51) (b &&& 51) (c &&& 51) (d &&& 51) := by
    rw [nv_and, h, show nv 858993459 = B4 51 51 51 51 by decide, and4 ha hb hc hd (by omega)]
  unfold pc2
  rw [nv_add, e2, e3]
  have q1 := and51 a ha
  have q2 := and51 b hb
  have q3 := and51 c hc
  have q4 := and51 d hd
  have q5 := and51 (a / 4) (by omega)
  have q6 := and51 (b / 4) (by omega)
  have q7 := and51 (c / 4) (by omega)
  have q8 := and51 (d / 4) (by omega)
  unfold p2 B4
  omega
theorem pc3_nv {x : Int} {a b c d : Nat} (ha : a % 16 ≤ 4 ∧ a / 16 ≤ 4) (hb : b % 16 ≤ 4 ∧ b / 16 ≤ 4) (hc : c % 16 ≤ 4 ∧ c / 16 ≤ 4) (hd : d % 16 ≤ 4 ∧ d / 16 ≤ 4) (h : nv x = B4 a b c d) : nv (pc3 x) = B4 (p3 a) (p3 b) (p3 c) (p3 d) := by
  have e1 : nv (ushrI x 4) = B4 (a / 16 + 16 * (b % 16)) (b / 16 + 16 * (c % 16)) (c / 16 + 16 * (d % 16)) (d / 16 + 16 * 0) := by
    rw [nv_ush x 4 ush_amt.2.2.1, h]
    unfold B4
    omega
  have e2 : nv (x + ushrI x 4) = B4 (a + (a / 16 + 16 * (b % 16))) (b + (b / 16 + 16 * (c % 16))) (c + (c / 16 + 16 * (d % 16))) (d + (d / 16 + 16 * 0)) := by
    rw [nv_add, e1, h]
    unfold B4
    omega
  unfold pc3
  rw [nv_and, e2, show nv 252645135 = B4 15 15 15 15 by decide, and4 (by omega) (by omega) (by omega) (by omega) (by omega), m15 a (by omega) _ (by omega) ha.1 ha.2, m15 b (by omega) _ (by omega) hb.1 hb.2, m15 c (by omega) _ (by omega) hc.1 hc.2, m15 d (by omega) _ (by omega) hd.1 hd.2]
  rfl
theorem pc45_nv {x : Int} {a b c d : Nat} (ha : a ≤ 8) (hb : b ≤ 8) (hc : c ≤ 8) (hd : d ≤ 8) (h : nv x = B4 a b c d) : andI (pc5 (pc4 x)) 63 = ((a + b + c + d : Nat) : Int) := by
  have e1 : nv (pc4 x) = B4 (a + b) (b + c) (c + d) d := by
    unfold pc4
    rw [nv_add, nv_ush x 8 ush_amt.2.2.2.1, h]
    unfold B4
    omega
  have e2 : nv (pc5 (pc4 x)) = B4 (a + b + c + d) (b + c + d) (c + d) d := by
    unfold pc5
    have e0 : B4 (a + b) (b + c) (c + d) d = (a + b + 256 * (b + c)) + 65536 * (c + d + 256 * d) := by unfold B4; omega
    have ed : B4 (a + b) (b + c) (c + d) d / 2 ^ 16 = c + d + 256 * d := by
      rw [e0, show (2 : Nat) ^ 16 = 65536 from rfl, Nat.add_mul_div_left _ _ (by decide), Nat.div_eq_of_lt (by omega), Nat.zero_add]
    rw [nv_add, nv_ush _ 16 ush_amt.2.2.2.2, e1, ed]
    unfold B4
    omega
  have e3 : nv (andI (pc5 (pc4 x)) 63) = a + b + c + d := by
    rw [nv_and, e2, show nv 63 = 2 ^ 6 - 1 by decide, Nat.and_two_pow_sub_one_eq_mod]
    unfold B4
    omega
  rw [← w32_andI, w32_nv (by rw [e3]; omega), e3]
theorem B4_bit {a b c d : Nat} (ha : a < 256) (hb : b < 256) (hc : c < 256) (k : Nat) : (B4 a b c d).testBit k = if k < 8 then a.testBit k else if k < 16 then b.testBit (k - 8) else if k < 24 then c.testBit (k - 16) else d.testBit (k - 24) := by
  unfold B4
  rw [Nat.add_comm a, show (256 : Nat) = 2 ^ 8 from rfl, Nat.testBit_two_pow_mul_add _ (show a < 2 ^ 8 from ha)]
  by_cases h1 : k < 8
  · rw [if_pos h1, if_pos h1]
  · rw [if_neg h1, if_neg h1, Nat.add_comm b, Nat.testBit_two_pow_mul_add _ (show b < 2 ^ 8 from hb)]
    by_cases h2 : k < 16
    · rw [if_pos (by omega), if_pos h2]
    · rw [if_neg (by omega), if_neg h2, Nat.add_comm c, Nat.testBit_two_pow_mul_add _ (show c < 2 ^ 8 from hc)]
      by_cases h3 : k < 24
      · rw [if_pos (by omega), if_pos h3, show k - 8 - 8 = k - 16 by omega]
      · rw [if_neg (by omega), if_neg h3, show k - 8 - 8 - 8 = k - 24 by omega]
theorem bitCount_eq (sg : St) (x : Int) : f_XJ_bitCount sg x = some (((fb_ct (bt x) 32 : Nat) : Int), sg) := by
  obtain ⟨a, b, c, d, ha, hb, hc, hd, h⟩ := B4_of (nv x) (nv_lt x)
  have fa := p_facts a ha
  have fb := p_facts b hb
  have fc := p_facts c hc
  have fd := p_facts d hd
  have g1 := pc1_nv ha hb hc hd h
  have g2 := pc2_nv fa.2.1 fb.2.1 fc.2.1 fd.2.1 g1
  have g3 := pc3_nv ⟨fa.2.2.1, fa.2.2.2.1⟩ ⟨fb.2.2.1, fb.2.2.2.1⟩ ⟨fc.2.2.1, fc.2.2.2.1⟩ ⟨fd.2.2.1, fd.2.2.2.1⟩ g2
  rw [fa.2.2.2.2.1, fb.2.2.2.2.1, fc.2.2.2.2.1, fd.2.2.2.2.1] at g3
  rw [bitCount_def, pc45_nv fa.2.2.2.2.2 fb.2.2.2.2.2 fc.2.2.2.2.2 fd.2.2.2.2.2 g3]
  have s1 : fb_ct (bt x) 32 = cb8 a + cb8 b + cb8 c + cb8 d := by
    rw [show (32 : Nat) = 8 + 24 from rfl, fb_ct_split, show (24 : Nat) = 8 + 16 from rfl, fb_ct_split, show (16 : Nat) = 8 + 8 from rfl, fb_ct_split]
    unfold bt cb8
    rw [h]
    simp only [B4_bit ha hb hc]
    have t1 : fb_ct (fun k => if k < 8 then a.testBit k else if k < 16 then b.testBit (k - 8) else if k < 24 then c.testBit (k - 16) else d.testBit (k - 24)) 8 = fb_ct (fun k => a.testBit k) 8 := fb_ct_cong (fun k hk => by rw [if_pos hk])
    have t2 : fb_ct (fun k => if 8 + k < 8 then a.testBit (8 + k) else if 8 + k < 16 then b.testBit (8 + k - 8) else if 8 + k < 24 then c.testBit (8 + k - 16) else d.testBit (8 + k - 24)) 8 = fb_ct (fun k => b.testBit k) 8 := fb_ct_cong (fun k hk => by rw [if_neg (by omega), if_pos (by omega), show 8 + k - 8 = k by omega])
    have t3 : fb_ct (fun k => if 8 + (8 + k) < 8 then a.testBit (8 + (8 + k)) else if 8 + (8 + k) < 16 then b.testBit (8 + (8 + k) - 8) else if 8 + (8 + k) < 24 then c.testBit (8 + (8 + k) - 16) else d.testBit (8 + (8 + k) - 24)) 8 = fb_ct (fun k => c.testBit k) 8 := fb_ct_cong (fun k hk => by rw [if_neg (by omega), if_neg (by omega), if_pos (by omega), show 8 + (8 + k) - 16 = k by omega])
    have t4 : fb_ct (fun k => if 8 + (8 + (8 + k)) < 8 then a.testBit (8 + (8 + (8 + k))) else if 8 + (8 + (8 + k)) < 16 then b.testBit (8 + (8 + (8 + k)) - 8) else if 8 + (8 + (8 + k)) < 24 then c.testBit (8 + (8 + (8 + k)) - 16) else d.testBit (8 + (8 + (8 + k)) - 24)) 8 = fb_ct (fun k => d.testBit k) 8 := fb_ct_cong (fun k hk => by rw [if_neg (by omega), if_neg (by omega), if_neg (by omega), show 8 + (8 + (8 + k)) - 24 = k by omega])
    rw [t1, t2, t3, t4]
    omega
  rw [s1]
