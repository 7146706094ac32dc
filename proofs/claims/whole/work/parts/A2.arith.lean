/-! division, common divisors, the order of fractions -/
def R63 (a : Int) : Prop := -9223372036854775808 < a ∧ a < 9223372036854775808
theorem w64_R {a : Int} (h : R63 a) : w64 a = a := w64_id (by have := h.1; omega) h.2
theorem R63_abs {a : Int} : R63 a ↔ a.natAbs < 9223372036854775808 := by unfold R63; omega
theorem w64_0 : w64 0 = 0 := by decide
theorem ofL_div {a b : Int} (ha : R63 a) (hb : R63 b) : Int64.ofInt a / Int64.ofInt b = Int64.ofInt (a.tdiv b) := by
  apply Int64.toInt_inj.mp
  have ea : (Int64.ofInt a).toInt = a := w64_R ha
  have eb : (Int64.ofInt b).toInt = b := w64_R hb
  have et : (Int64.ofInt (a.tdiv b)).toInt = a.tdiv b := w64_R (R63_abs.mpr (by have := Int.natAbs_tdiv_le_natAbs a b; have := R63_abs.mp ha; omega))
  rw [Int64.toInt_div, ea, eb, et]
  have := R63_abs.mp ha
  have := Int.natAbs_tdiv_le_natAbs a b
  exact fb_bmodL (by omega) (by omega)
theorem divL_id {a b : Int} (ha : R63 a) (hb : R63 b) : divL a b = a.tdiv b := by
  unfold divL
  rw [ofL_div ha hb]
  exact w64_R (R63_abs.mpr (by have := Int.natAbs_tdiv_le_natAbs a b; have := R63_abs.mp ha; omega))
theorem remL_id {a b : Int} (ha : R63 a) (hb : R63 b) : remL a b = a.tmod b := by
  unfold remL
  rw [ofL_div ha hb, ← Int64.ofInt_mul, ← Int64.ofInt_sub]
  have e : a - a.tdiv b * b = a.tmod b := by rw [Int.tmod_def, Int.mul_comm]
  rw [e]
  refine w64_R (R63_abs.mpr ?_)
  rw [Int.natAbs_tmod]
  have := Nat.mod_le a.natAbs b.natAbs
  have := R63_abs.mp ha
  omega
theorem divI_nat {a b : Nat} (ha : a < 2147483648) (h0 : 0 < b) (hb : b < 2147483648) : divI a b = (a / b : Nat) := by
  have z := pk_div (a := a) (d := b) (by omega) h0 (by omega)
  have e : ∀ k : Nat, Int32.ofInt (k : Int) = nI k := fun k => rfl
  unfold divI
  rw [e, e, z, ← e]
  exact wnat (Nat.lt_of_le_of_lt (Nat.div_le_self a b) ha)
theorem remI_nat {a b : Nat} (ha : a < 2147483648) (h0 : 0 < b) (hb : b < 2147483648) : remI a b = (a % b : Nat) := by
  have z := pk_rem (a := a) (d := b) (by omega) h0 (by omega)
  have e : ∀ k : Nat, Int32.ofInt (k : Int) = nI k := fun k => rfl
  unfold remI
  rw [e, e, z, ← e]
  exact wnat (Nat.lt_of_le_of_lt (Nat.mod_le a b) ha)
theorem xorL_sg {a b : Int} (ha : R63 a) (hb : R63 b) (h : 0 < b) : w64 0 ≤ w64 (xorL a b) ↔ 0 ≤ a := by
  have ea : (Int64.ofInt a).toInt = a := w64_R ha
  have eb : (Int64.ofInt b).toInt = b := w64_R hb
  have e : w64 (xorL a b) = xorL a b := congrArg Int64.toInt (Int64.ofInt_toInt _)
  have m : ∀ x : Int64, 0 ≤ x.toInt ↔ x.toBitVec.msb = false := fun x => by
    rw [BitVec.msb_eq_toInt]
    show 0 ≤ x.toBitVec.toInt ↔ _
    rw [decide_eq_false_iff_not]
    omega
  rw [w64_0, e]
  unfold xorL
  rw [m, Int64.toBitVec_xor, BitVec.msb_xor]
  have mb : (Int64.ofInt b).toBitVec.msb = false := (m _).mp (by rw [eb]; omega)
  rw [mb, Bool.xor_false, ← m, ea]
theorem fdiv_eq {a b : Int} (ha : R63 a) (hb : R63 b) (h : 0 < b) : (if w64 0 ≤ w64 (xorL a b) then divL a b else if w64 ((divL a b) * b) = w64 a then divL a b else divL a b - 1) = a / b := by
  rw [divL_id ha hb]
  have t := @Int.tdiv_eq_ediv a b
  rw [Int.sign_eq_one_of_pos h] at t
  by_cases c : 0 ≤ a
  · rw [if_pos ((xorL_sg ha hb h).mpr c), t, if_pos (.inl c), Int.add_zero]
  · rw [if_neg (fun q => c ((xorL_sg ha hb h).mp q))]
    have d : a.tmod b = a - b * a.tdiv b := Int.tmod_def a b
    have d2 : a.tmod b = a % b - (if 0 ≤ a ∨ b ∣ a then 0 else (b.natAbs : Int)) := by
      rw [Int.tmod_eq_emod]
      split <;> rfl
    have l1 := Int.emod_nonneg a (show b ≠ 0 by omega)
    have l2 := Int.emod_lt_of_pos a h
    have rg : R63 (a.tdiv b * b) := by
      rw [Int.mul_comm]
      have a1 := ha.1
      have a2 := ha.2
      have b2 := hb.2
      refine ⟨?_, ?_⟩
      · split at d2 <;> omega
      · split at d2
        · omega
        · rename_i hq
          have : a % b ≠ 0 := fun e => hq (.inr (Int.dvd_of_emod_eq_zero e))
          omega
    rw [w64_R rg, w64_R ha]
    by_cases e : b ∣ a
    · rw [if_pos (.inr e), Int.sub_zero, Int.emod_eq_zero_of_dvd e] at d2
      rw [if_pos (by rw [Int.mul_comm]; omega), t, if_pos (.inr e), Int.add_zero]
    · have n2 : ¬ (0 ≤ a ∨ b ∣ a) := fun q => q.elim c e
      have : a % b ≠ 0 := fun q => e (Int.dvd_of_emod_eq_zero q)
      rw [if_neg n2] at d2
      rw [if_neg (by rw [Int.mul_comm]; omega), t, if_neg n2]
      omega
theorem floorDivM_eq {sg : St} {a b : Int} (ha : R63 a) (hb : R63 b) (h : 0 < b) : f_MJ_floorDiv sg a b = some (a / b, sg) := by
  unfold f_MJ_floorDiv
  rw [gd_yes (by rw [w64_R hb]; omega)]
  have z := fdiv_eq ha hb h
  split
  · rename_i c; rw [if_pos c] at z; rw [z]
  · rename_i c
    rw [if_neg c] at z
    split
    · rename_i c2; rw [if_pos c2] at z; rw [z]
    · rename_i c2; rw [if_neg c2] at z; rw [z]
theorem floorDivX_eq {sg : St} {a b : Int} (ha : R63 a) (hb : R63 b) (h : 0 < b) : f_XJ_floorDiv sg a b = some (a / b, sg) := floorDivM_eq ha hb h
theorem floorModM_eq {sg : St} {a b : Int} (ha : R63 a) (hb : R63 b) (h : 0 < b) : f_MJ_floorMod sg a b = some (a % b, sg) := by
  unfold f_MJ_floorMod
  rw [gd_yes (by rw [w64_R hb]; omega), remL_id ha hb]
  have t : a.tmod b = a % b - (if 0 ≤ a ∨ b ∣ a then 0 else (b.natAbs : Int)) := by
    rw [Int.tmod_eq_emod]
    split <;> rfl
  by_cases c : 0 ≤ a
  · rw [if_pos ((xorL_sg ha hb h).mpr c), t, if_pos (.inl c), Int.sub_zero]
  · rw [if_neg (fun q => c ((xorL_sg ha hb h).mp q))]
    have rg : R63 (a.tmod b) := R63_abs.mpr (by
      rw [Int.natAbs_tmod]
      have := Nat.mod_le a.natAbs b.natAbs
      have := R63_abs.mp ha
      omega)
    rw [w64_R rg, w64_0]
    have l2 := Int.emod_lt_of_pos a h
    by_cases e : b ∣ a
    · have z := Int.emod_eq_zero_of_dvd e
      rw [if_pos (.inr e), Int.sub_zero] at t
      rw [if_pos (by omega), t]
    · have n2 : ¬ (0 ≤ a ∨ b ∣ a) := fun q => q.elim c e
      rw [if_neg n2] at t
      have e2 : a.tmod b + b = a % b := by omega
      rw [if_neg (by omega), e2]
theorem absM_eq {sg : St} {a : Int} (ha : R63 a) : f_MJ_abs sg a = some ((a.natAbs : Int), sg) := by
  unfold f_MJ_abs
  rw [w64_R ha, w64_0]
  by_cases c : 0 ≤ a
  · rw [if_pos c]; congr 2; omega
  · rw [if_neg c]; congr 2; omega
theorem absX_eq {sg : St} {a : Int} (ha : R63 a) : f_XJ_abs sg a = some ((a.natAbs : Int), sg) := absM_eq ha
theorem halves {q r : Nat} (h0 : 0 < r) (h : r < q) : 2 * (q % r) < q := by
  have b := Nat.mod_lt q h0
  have c := Nat.div_add_mod q r
  have d : 1 ≤ q / r := Nat.div_pos (by omega) h0
  have e : r * 1 ≤ r * (q / r) := Nat.mul_le_mul_left _ d
  omega
theorem RNt {n : Nat} (h : n < 9223372036854775808) : R63 (n : Int) := ⟨by omega, by omega⟩
theorem remL_nat {a b : Nat} (ha : a < 9223372036854775808) (hb : b < 9223372036854775808) : remL a b = (a % b : Nat) := by
  rw [remL_id (RNt ha) (RNt hb)]; rfl
theorem gcd_step (p q : Nat) : Nat.gcd q (p % q) = Nat.gcd p q := by
  rw [Nat.gcd_comm p q, Nat.gcd_rec q p, Nat.gcd_comm]
theorem commonM_loop {F : Nat} {s : St} : ∀ (k n p q : Nat), p < 9223372036854775808 → q < 9223372036854775808 → q < 2 ^ k → 2 * k < n → l_M_common_12 F (fun s3 x4_4 => some (x4_4, s3)) n s p q = some (((Nat.gcd p q : Nat) : Int), s) := by
  have zero : ∀ (n p : Nat), p < 9223372036854775808 → l_M_common_12 F (fun s3 x4_4 => some (x4_4, s3)) (n + 1) s p ((0 : Nat) : Int) = some (((Nat.gcd p 0 : Nat) : Int), s) := by
    intro n p hp
    show b_M_common_12 F (l_M_common_12 F _ n) _ s p ((0 : Nat) : Int) = _
    unfold b_M_common_12
    rw [if_pos (by rfl), Nat.gcd_zero_right]
  have step : ∀ (n p q : Nat), p < 9223372036854775808 → q < 9223372036854775808 → 0 < q → l_M_common_12 F (fun s3 x4_4 => some (x4_4, s3)) (n + 1) s p q = l_M_common_12 F (fun s3 x4_4 => some (x4_4, s3)) n s q ((p % q : Nat) : Int) := by
    intro n p q hp hq h0
    show b_M_common_12 F (l_M_common_12 F _ n) _ s p q = _
    unfold b_M_common_12
    rw [if_neg (by rw [w64_R (RNt hq), w64_0]; omega), gd_yes (by rw [w64_R (RNt hq)]; omega), remL_nat hp hq]
  intro k
  induction k with
  | zero =>
    intro n p q hp hq hk hn
    obtain ⟨m, rfl⟩ : ∃ m, n = m + 1 := ⟨n - 1, by omega⟩
    have e : q = 0 := by omega
    subst e
    exact zero m p hp
  | succ k ih =>
    intro n p q hp hq hk hn
    obtain ⟨m, rfl⟩ : ∃ m, n = m + 1 + 1 := ⟨n - 2, by omega⟩
    rcases Nat.eq_zero_or_pos q with h0 | h0
    · subst h0; exact zero (m + 1) p hp
    · rw [step (m + 1) p q hp hq h0, ← gcd_step p q]
      have l1 := Nat.mod_lt p h0
      rcases Nat.eq_zero_or_pos (p % q) with h1 | h1
      · rw [h1]; exact zero m q hq
      · rw [step m q (p % q) hq (by omega) h1, ← gcd_step q (p % q)]
        have l2 := Nat.mod_lt q h1
        have l3 := halves h1 l1
        refine ih m (p % q) (q % (p % q)) (by omega) (by omega) ?_ (by omega)
        rw [Nat.pow_succ] at hk
        omega
theorem commonM_eq {F : Nat} {s : St} {a b : Int} (ha : R63 a) (hb : R63 b) (hF : 200 ≤ F) : f_M_common F s a b = some (((Nat.gcd a.natAbs b.natAbs : Nat) : Int), s) := by
  unfold f_M_common
  rw [absM_eq ha]
  show ((f_MJ_abs s b).bind fun q2 => l_M_common_12 F (fun s3 x4_4 => some (x4_4, s3)) F q2.2 (a.natAbs : Int) q2.1) = _
  rw [absM_eq hb]
  exact commonM_loop 63 F a.natAbs b.natAbs (R63_abs.mp ha) (R63_abs.mp hb) (by have := R63_abs.mp hb; omega) (by omega)
theorem commonX_loop {F : Nat} {s : St} : ∀ (k n p q i : Nat), p < 9223372036854775808 → q < 9223372036854775808 → q < 2 ^ k → 2 * k < n → 2 * k + i < 200 → l_Frac_commonDivisor_9 F (fun s1 x4_2 => some (x4_2, s1)) n s p q i = some (((Nat.gcd p q : Nat) : Int), s) := by
  have zero : ∀ (n p i : Nat), p < 9223372036854775808 → l_Frac_commonDivisor_9 F (fun s1 x4_2 => some (x4_2, s1)) (n + 1) s p ((0 : Nat) : Int) i = some (((Nat.gcd p 0 : Nat) : Int), s) := by
    intro n p i hp
    show b_Frac_commonDivisor_9 F (l_Frac_commonDivisor_9 F _ n) _ s p ((0 : Nat) : Int) i = _
    unfold b_Frac_commonDivisor_9
    rw [Nat.gcd_zero_right]
    split
    · rfl
    · rw [if_pos (by decide)]
  have step : ∀ (n p q i : Nat), p < 9223372036854775808 → q < 9223372036854775808 → 0 < q → i < 200 → l_Frac_commonDivisor_9 F (fun s1 x4_2 => some (x4_2, s1)) (n + 1) s p q i = l_Frac_commonDivisor_9 F (fun s1 x4_2 => some (x4_2, s1)) n s q ((p % q : Nat) : Int) ((i + 1 : Nat) : Int) := by
    intro n p q i hp hq h0 hi
    show b_Frac_commonDivisor_9 F (l_Frac_commonDivisor_9 F _ n) _ s p q i = _
    unfold b_Frac_commonDivisor_9
    rw [if_neg (by rw [show w32 200 = 200 by decide, wnat (by omega)]; omega), if_neg (by rw [w64_R (RNt hq), w64_0]; omega), gd_yes (by rw [w64_R (RNt hq)]; omega), remL_nat hp hq]
    rfl
  intro k
  induction k with
  | zero =>
    intro n p q i hp hq hk hn hi
    obtain ⟨m, rfl⟩ : ∃ m, n = m + 1 := ⟨n - 1, by omega⟩
    have e : q = 0 := by omega
    subst e
    exact zero m p i hp
  | succ k ih =>
    intro n p q i hp hq hk hn hi
    obtain ⟨m, rfl⟩ : ∃ m, n = m + 1 + 1 := ⟨n - 2, by omega⟩
    rcases Nat.eq_zero_or_pos q with h0 | h0
    · subst h0; exact zero (m + 1) p i hp
    · rw [step (m + 1) p q i hp hq h0 (by omega), ← gcd_step p q]
      have l1 := Nat.mod_lt p h0
      rcases Nat.eq_zero_or_pos (p % q) with h1 | h1
      · rw [h1]; exact zero m q (i + 1) hq
      · rw [step m q (p % q) (i + 1) hq (by omega) h1 (by omega), ← gcd_step q (p % q)]
        have l2 := Nat.mod_lt q h1
        have l3 := halves h1 l1
        refine ih m (p % q) (q % (p % q)) (i + 1 + 1) (by omega) (by omega) ?_ (by omega) (by omega)
        rw [Nat.pow_succ] at hk
        omega
theorem become_eq {F cf : Nat} {s : St} {a b : Int} (ha : R63 a) (hb : R63 b) (h : 0 < b) (hF : 200 ≤ F) : f_Frac_become F cf s a b = some (put (put s cf 0 (a.tdiv (Nat.gcd a.natAbs b.natAbs : Nat))) cf 1 (b.tdiv (Nat.gcd a.natAbs b.natAbs : Nat))) := by
  have hg : 0 < Nat.gcd a.natAbs b.natAbs := Nat.gcd_pos_of_pos_right _ (by omega)
  have hg2 : Nat.gcd a.natAbs b.natAbs ≤ b.natAbs := Nat.le_of_dvd (by omega) (Nat.gcd_dvd_right _ _)
  have hb2 := R63_abs.mp hb
  have rg : R63 ((Nat.gcd a.natAbs b.natAbs : Nat) : Int) := RNt (by omega)
  unfold f_Frac_become f_Frac_commonDivisor
  rw [absX_eq ha]
  show ((l_Frac_commonDivisor_9 F (fun s1 x4_2 => some (x4_2, s1)) F s (a.natAbs : Int) b ((0 : Nat) : Int)).bind fun q2 => _) = _
  have eb : b = (b.natAbs : Int) := by omega
  rw [show l_Frac_commonDivisor_9 F (fun s1 x4_2 => some (x4_2, s1)) F s (a.natAbs : Int) b ((0 : Nat) : Int) = some (((Nat.gcd a.natAbs b.natAbs : Nat) : Int), s) from by
    have z := commonX_loop (F := F) (s := s) 63 F a.natAbs b.natAbs 0 (R63_abs.mp ha) hb2 (by omega) (by omega) (by omega)
    rw [← eb] at z
    exact z]
  show (if w64 b ≤ w64 0 then some s else if w64 ((Nat.gcd a.natAbs b.natAbs : Nat) : Int) ≤ w64 0 then some s else gd (¬ w64 ((Nat.gcd a.natAbs b.natAbs : Nat) : Int) = 0) (gd (¬ w64 ((Nat.gcd a.natAbs b.natAbs : Nat) : Int) = 0) (some (put (put s cf 0 (divL a (Nat.gcd a.natAbs b.natAbs : Nat))) cf 1 (divL b (Nat.gcd a.natAbs b.natAbs : Nat)))))) = _
  rw [w64_R hb, w64_R rg, w64_0, if_neg (by omega), if_neg (by omega), gd_yes (by omega), gd_yes (by omega), divL_id ha rg, divL_id hb rg]
/-- the order of fractions, by their parts -/
theorem cross_step {p q r s w : Int} : q * (r - w * s) - s * (p - w * q) = -(p * s - r * q) := by
  simp only [Int.mul_sub, Int.mul_left_comm, Int.mul_comm]
  have e : s * (w * q) = q * (w * s) := by simp only [Int.mul_left_comm, Int.mul_comm]
  omega
theorem cross_lt {p q r s : Int} (hq : 0 < q) (hs : 0 < s) (h : p / q < r / s) : p * s < r * q := by
  have a := Int.lt_ediv_add_one_mul_self p hq
  have b : r / s * s ≤ r := Int.ediv_mul_le r (by omega)
  have c : p < (r / s) * q := Int.lt_of_lt_of_le a (Int.mul_le_mul_of_nonneg_right (by omega) (by omega))
  have d : p * s < (r / s) * q * s := Int.mul_lt_mul_of_pos_right c hs
  have e : (r / s) * s * q ≤ r * q := Int.mul_le_mul_of_nonneg_right b (by omega)
  have f : (r / s) * q * s = (r / s) * s * q := by rw [Int.mul_assoc, Int.mul_comm q s, Int.mul_assoc]
  omega
def XT (t p q r s : Int) : Int := if t = 0 then p * s - r * q else r * q - p * s
theorem XT_next {t p q r s : Int} (ht : t = 0 ∨ t = 1) (e : p / q = r / s) : XT (1 - t) q (p % q) s (r % s) = XT t p q r s := by
  have z := @cross_step p q r s (p / q)
  have e1 : p % q = p - p / q * q := by rw [Int.emod_def, Int.mul_comm]
  have e2 : r % s = r - p / q * s := by rw [Int.emod_def, Int.mul_comm, ← e]
  rw [← e1, ← e2] at z
  unfold XT
  rcases ht with h | h
  · rw [h, if_pos rfl, if_neg (by decide)]; omega
  · rw [h, if_pos (by decide), if_neg (by decide)]; omega
def FQs (p q r s : Int) : Prop := R63 p ∧ R63 q ∧ R63 r ∧ R63 s ∧ 0 ≤ q ∧ 0 ≤ s ∧ (q = 0 → 0 < p) ∧ (s = 0 → 0 < r)
theorem R63_div {p q : Int} (h : R63 p) : R63 (p / q) := R63_abs.mpr (by have := Int.natAbs_ediv_le_natAbs p q; have := R63_abs.mp h; omega)
/-- where the parts end: which is the greater -/
theorem XT_end {t p q r s : Int} (h : FQs p q r s) (ht : t = 0 ∨ t = 1) : (q = 0 → s = 0 → XT t p q r s = 0) ∧ (s = 0 → 0 < q → (0 < XT t p q r s ↔ t = 1)) ∧ (q = 0 → 0 < s → (0 < XT t p q r s ↔ t = 0)) ∧ (0 < q → 0 < s → p / q < r / s → (0 < XT t p q r s ↔ t = 1)) ∧ (0 < q → 0 < s → r / s < p / q → (0 < XT t p q r s ↔ t = 0)) := by
  obtain ⟨h1, h2, h3, h4, h5, h6, h7, h8⟩ := h
  have one : ¬ (1 : Int) = 0 := by decide
  have key : ∀ X : Int, (X = p * s - r * q) → (X < 0 → (0 < XT t p q r s ↔ t = 1)) ∧ (0 < X → (0 < XT t p q r s ↔ t = 0)) := by
    intro X hX
    unfold XT
    rcases ht with h | h <;> subst h
    · rw [if_pos rfl, ← hX]; omega
    · rw [if_neg one]; omega
  have k := key _ rfl
  refine ⟨fun a b => ?_, fun a b => k.1 ?_, fun a b => k.2 ?_, fun a b c => k.1 ?_, fun a b c => k.2 ?_⟩
  · unfold XT
    rw [a, b]
    simp
  · rw [a, Int.mul_zero]
    have := Int.mul_pos (h8 a) b
    omega
  · rw [a, Int.mul_zero]
    have := Int.mul_pos (h7 a) b
    omega
  · have := cross_lt a b c
    omega
  · have := cross_lt b a c
    omega
theorem FS_next {p q r s : Int} (h : FQs p q r s) (hq : 0 < q) (hs : 0 < s) : FQs q (p % q) s (r % s) := by
  obtain ⟨h1, h2, h3, h4, h5, h6, h7, h8⟩ := h
  have a := Int.emod_nonneg p (show q ≠ 0 by omega)
  have b := Int.emod_lt_of_pos p hq
  have c := Int.emod_nonneg r (show s ≠ 0 by omega)
  have d := Int.emod_lt_of_pos r hs
  unfold R63 at *
  exact ⟨h2, ⟨by omega, by omega⟩, h4, ⟨by omega, by omega⟩, a, c, fun _ => hq, fun _ => hs⟩
theorem b01_t {t : Int} {c : Prop} [Decidable c] (ht : t = 0 ∨ t = 1) (z : Int) (hz : z = 0 ∨ z = 1) (h : c ↔ t ≠ z) (sg : St) : (if w32 t = w32 z then some ((0 : Int), sg) else some (1, sg)) = some (b01 c, sg) := by
  have e : ∀ x : Int, x = 0 ∨ x = 1 → w32 x = x := fun x hx => by rcases hx with h | h <;> subst h <;> decide
  rw [e t ht, e z hz]
  unfold b01
  by_cases q : t = z
  · rw [if_pos q, if_neg (fun hc => (h.mp hc) q)]
  · rw [if_neg q, if_pos (h.mpr q)]
theorem aboveM_end {F : Nat} {sg : St} {t p q r s : Int} (h : FQs p q r s) (ht : t = 0 ∨ t = 1) (hd : q = 0 ∨ s = 0 ∨ p / q ≠ r / s) : b_M_isAbove_98 F sg p q r s t = some (b01 (0 < XT t p q r s), sg) := by
  have k := XT_end h ht
  obtain ⟨h1, h2, h3, h4, h5, h6, h7, h8⟩ := h
  unfold b_M_isAbove_98 b_M_isAbove_114 b_M_isAbove_151
  rw [w64_R h2, w64_R h4, w64_0]
  by_cases cq : q = 0
  · rw [if_pos cq]
    by_cases cs : s = 0
    · rw [if_pos cs, k.1 cq cs]
      unfold b01
      rw [if_neg (by decide)]
    · rw [if_neg cs, if_neg cs, if_pos cq]
      exact b01_t ht 1 (.inr rfl) (by rw [k.2.2.1 cq (by omega)]; omega) sg
  · rw [if_neg cq]
    by_cases cs : s = 0
    · rw [if_pos cs]
      exact b01_t ht 0 (.inl rfl) (by rw [k.2.1 cs (by omega)]; omega) sg
    · rw [if_neg cs, if_neg cq, floorDivM_eq h1 h2 (by omega)]
      show ((f_MJ_floorDiv sg r s).bind fun q4 => if w64 (p / q) ≤ w64 q4.1 then _ else _) = _
      rw [floorDivM_eq h3 h4 (by omega)]
      show (if w64 (p / q) ≤ w64 (r / s) then (if w32 t = w32 0 then some ((0 : Int), sg) else some (1, sg)) else (if w32 t = w32 1 then some (0, sg) else some (1, sg))) = _
      rw [w64_R (R63_div h1), w64_R (R63_div h3)]
      have ne : p / q ≠ r / s := by
        rcases hd with h | h | h
        · exact absurd h cq
        · exact absurd h cs
        · exact h
      by_cases c : p / q ≤ r / s
      · rw [if_pos c]
        exact b01_t ht 0 (.inl rfl) (by rw [k.2.2.2.1 (by omega) (by omega) (by omega)]; omega) sg
      · rw [if_neg c]
        exact b01_t ht 1 (.inr rfl) (by rw [k.2.2.2.2 (by omega) (by omega) (by omega)]; omega) sg
theorem halvesI {q r : Int} (h0 : 0 < r) (h : r < q) : 2 * (q % r) < q := by
  have b := Int.emod_lt_of_pos q h0
  have c := Int.mul_ediv_add_emod q r
  have d : 1 ≤ q / r := (Int.le_ediv_iff_mul_le h0).mpr (by omega)
  have e : r * 1 ≤ r * (q / r) := Int.mul_le_mul_of_nonneg_left d (by omega)
  omega
theorem aboveM_loop {F : Nat} {sg : St} : ∀ (k n : Nat) (p q r s t : Int), FQs p q r s → (t = 0 ∨ t = 1) → q < 2 ^ k → 2 * k < n → l_M_isAbove_17 F (fun s1 x8_2 x10_3 x12_4 x14_5 x16_6 => b_M_isAbove_98 F s1 x8_2 x10_3 x12_4 x14_5 x16_6) n sg p q r s t = some (b01 (0 < XT t p q r s), sg) := by
  have step : ∀ (n : Nat) (p q r s t : Int), FQs p q r s → (t = 0 ∨ t = 1) → (0 < q → 0 < s → p / q = r / s → l_M_isAbove_17 F (fun s1 x8_2 x10_3 x12_4 x14_5 x16_6 => b_M_isAbove_98 F s1 x8_2 x10_3 x12_4 x14_5 x16_6) n sg q (p % q) s (r % s) (1 - t) = some (b01 (0 < XT (1 - t) q (p % q) s (r % s)), sg)) → l_M_isAbove_17 F (fun s1 x8_2 x10_3 x12_4 x14_5 x16_6 => b_M_isAbove_98 F s1 x8_2 x10_3 x12_4 x14_5 x16_6) (n + 1) sg p q r s t = some (b01 (0 < XT t p q r s), sg) := by
    intro n p q r s t h ht next
    have h0 := h
    obtain ⟨h1, h2, h3, h4, h5, h6, h7, h8⟩ := h
    show b_M_isAbove_17 F (l_M_isAbove_17 F _ n) _ sg p q r s t = _
    unfold b_M_isAbove_17
    rw [w64_R h2, w64_R h4, w64_0]
    by_cases cq : q = 0
    · rw [if_pos cq]
      exact aboveM_end h0 ht (.inl cq)
    · rw [if_neg cq]
      by_cases cs : s = 0
      · rw [if_pos cs]
        exact aboveM_end h0 ht (.inr (.inl cs))
      · rw [if_neg cs, floorDivM_eq h1 h2 (by omega)]
        show ((f_MJ_floorDiv sg r s).bind fun q4 => if w64 (p / q) = w64 q4.1 then _ else _) = _
        rw [floorDivM_eq h3 h4 (by omega)]
        show (if w64 (p / q) = w64 (r / s) then (f_MJ_floorMod sg p q).bind fun q6 => (f_MJ_floorMod q6.2 r s).bind fun q7 => if w32 t = 0 then l_M_isAbove_17 F _ n q7.2 q q6.1 s q7.1 1 else l_M_isAbove_17 F _ n q7.2 q q6.1 s q7.1 0 else b_M_isAbove_98 F sg p q r s t) = _
        rw [w64_R (R63_div h1), w64_R (R63_div h3)]
        by_cases c : p / q = r / s
        · rw [if_pos c, floorModM_eq h1 h2 (by omega)]
          show ((f_MJ_floorMod sg r s).bind fun q7 => if w32 t = 0 then l_M_isAbove_17 F _ n q7.2 q (p % q) s q7.1 1 else l_M_isAbove_17 F _ n q7.2 q (p % q) s q7.1 0) = _
          rw [floorModM_eq h3 h4 (by omega)]
          have nx := next (by omega) (by omega) c
          rw [XT_next ht c] at nx
          rcases ht with h | h
          · rw [h] at nx ⊢
            exact nx
          · rw [h] at nx ⊢
            exact nx
        · rw [if_neg c]
          exact aboveM_end h0 ht (.inr (.inr c))
  intro k
  induction k with
  | zero =>
    intro n p q r s t h ht hq hn
    obtain ⟨m, rfl⟩ : ∃ m, n = m + 1 := ⟨n - 1, by omega⟩
    refine step m p q r s t h ht (fun a _ _ => ?_)
    have : (2 : Int) ^ 0 = 1 := by decide
    omega
  | succ k ih =>
    intro n p q r s t h ht hq hn
    obtain ⟨m, rfl⟩ : ∃ m, n = m + 1 + 1 := ⟨n - 2, by omega⟩
    refine step (m + 1) p q r s t h ht (fun a b c => ?_)
    have f1 := FS_next h a b
    refine step m _ _ _ _ _ f1 (by omega) (fun a2 b2 c2 => ?_)
    have f2 := FS_next f1 a2 b2
    refine ih m _ _ _ _ _ f2 (by omega) ?_ (by omega)
    have l1 := Int.emod_lt_of_pos p a
    have l3 := halvesI a2 l1
    rw [Int.pow_succ] at hq
    omega
theorem lt63 {q : Int} (h : R63 q) : q < 2 ^ 63 := by
  have e : (2 : Int) ^ 63 = 9223372036854775808 := by decide
  have := h.2
  omega
theorem aboveM_eq {F : Nat} {sg : St} {p q r s : Int} (h1 : R63 p) (h2 : R63 q) (h3 : R63 r) (h4 : R63 s) (hq : 0 < q) (hs : 0 < s) (hF : 200 ≤ F) : f_M_isAbove F sg p q r s = some (b01 (r * q < p * s), sg) := by
  have z := aboveM_loop (F := F) (sg := sg) 63 F p q r s 0 ⟨h1, h2, h3, h4, by omega, by omega, fun _ => by omega, fun _ => by omega⟩ (.inl rfl) (lt63 h2) (by omega)
  have e : (0 < XT 0 p q r s) = (r * q < p * s) := by
    unfold XT
    rw [if_pos rfl]
    apply propext
    omega
  unfold f_M_isAbove
  rw [z]
  unfold b01
  by_cases c : r * q < p * s
  · rw [if_pos c, if_pos (by rw [e]; exact c)]
  · rw [if_neg c, if_neg (by rw [e]; exact c)]
theorem aboveX_end {F cf co : Nat} {sg : St} {t p q r s : Int} (h : FQs p q r s) (ht : t = 0 ∨ t = 1) (hd : q = 0 ∨ s = 0) : b_Frac_isAbove_152 cf co F sg q s t = some (b01 (0 < XT t p q r s), sg) := by
  have k := XT_end h ht
  obtain ⟨h1, h2, h3, h4, h5, h6, h7, h8⟩ := h
  unfold b_Frac_isAbove_152 b_Frac_isAbove_172
  rw [w64_R h2, w64_R h4, w64_0]
  have fl : ∀ (z : Int), (if w32 z = w32 t then some ((0 : Int), sg) else some (1, sg)) = (if w32 t = w32 z then some ((0 : Int), sg) else some (1, sg)) := fun z => by
    by_cases c : w32 z = w32 t
    · rw [if_pos c, if_pos c.symm]
    · rw [if_neg c, if_neg (fun e => c e.symm)]
  by_cases cq : q = 0
  · by_cases cs : s = 0
    · rw [if_pos (by omega), k.1 cq cs]
      unfold b01
      rw [if_neg (by decide)]
    · rw [if_neg (by omega), if_pos cq, fl]
      exact b01_t ht 1 (.inr rfl) (by rw [k.2.2.1 cq (by omega)]; omega) sg
  · rw [if_neg (by omega), if_neg cq, fl]
    exact b01_t ht 0 (.inl rfl) (by rw [k.2.1 (by omega) (by omega)]; omega) sg
theorem aboveX_loop {F cf co : Nat} {sg : St} : ∀ (k n i : Nat) (p q r s t : Int), FQs p q r s → (t = 0 ∨ t = 1) → q < 2 ^ k → 2 * k < n → 2 * k + i < 200 → l_Frac_isAbove_29 cf co F (fun s1 x10_2 z0_3 => b_Frac_isAbove_89 cf co F s1 x10_2 z0_3) (fun s4 x4_5 x8_6 x10_7 => b_Frac_isAbove_152 cf co F s4 x4_5 x8_6 x10_7) n sg p q r s t i = some (b01 (0 < XT t p q r s), sg) := by
  have step : ∀ (n i : Nat) (p q r s t : Int), FQs p q r s → (t = 0 ∨ t = 1) → i < 200 → (0 < q → 0 < s → p / q = r / s → l_Frac_isAbove_29 cf co F (fun s1 x10_2 z0_3 => b_Frac_isAbove_89 cf co F s1 x10_2 z0_3) (fun s4 x4_5 x8_6 x10_7 => b_Frac_isAbove_152 cf co F s4 x4_5 x8_6 x10_7) n sg q (p % q) s (r % s) (1 - t) ((i + 1 : Nat) : Int) = some (b01 (0 < XT (1 - t) q (p % q) s (r % s)), sg)) → l_Frac_isAbove_29 cf co F (fun s1 x10_2 z0_3 => b_Frac_isAbove_89 cf co F s1 x10_2 z0_3) (fun s4 x4_5 x8_6 x10_7 => b_Frac_isAbove_152 cf co F s4 x4_5 x8_6 x10_7) (n + 1) sg p q r s t i = some (b01 (0 < XT t p q r s), sg) := by
    intro n i p q r s t h ht hi next
    have h0 := h
    have k := XT_end h ht
    obtain ⟨h1, h2, h3, h4, h5, h6, h7, h8⟩ := h
    show b_Frac_isAbove_29 cf co F (l_Frac_isAbove_29 cf co F _ _ n) _ _ sg p q r s t i = _
    unfold b_Frac_isAbove_29
    rw [w64_R h2, w64_R h4, w64_0, if_neg (by rw [show w32 200 = 200 by decide, wnat (by omega)]; omega)]
    by_cases cq : q ≤ 0
    · rw [if_pos cq]
      exact aboveX_end h0 ht (.inl (by omega))
    · rw [if_neg cq]
      by_cases cs : s ≤ 0
      · rw [if_pos cs]
        exact aboveX_end h0 ht (.inr (by omega))
      · rw [if_neg cs, floorDivX_eq h1 h2 (by omega)]
        show ((f_XJ_floorDiv sg r s).bind fun q5 => if w64 (p / q) = w64 q5.1 then (if w32 t = 0 then l_Frac_isAbove_29 cf co F _ _ n q5.2 q (p - p / q * q) s (r - q5.1 * s) 1 ((i : Int) + 1) else l_Frac_isAbove_29 cf co F _ _ n q5.2 q (p - p / q * q) s (r - q5.1 * s) 0 ((i : Int) + 1)) else if w64 (p / q) ≤ w64 q5.1 then b_Frac_isAbove_89 cf co F q5.2 t 0 else b_Frac_isAbove_89 cf co F q5.2 t 1) = _
        rw [floorDivX_eq h3 h4 (by omega)]
        show (if w64 (p / q) = w64 (r / s) then (if w32 t = 0 then l_Frac_isAbove_29 cf co F _ _ n sg q (p - p / q * q) s (r - r / s * s) 1 ((i : Int) + 1) else l_Frac_isAbove_29 cf co F _ _ n sg q (p - p / q * q) s (r - r / s * s) 0 ((i : Int) + 1)) else if w64 (p / q) ≤ w64 (r / s) then b_Frac_isAbove_89 cf co F sg t 0 else b_Frac_isAbove_89 cf co F sg t 1) = _
        rw [w64_R (R63_div h1), w64_R (R63_div h3)]
        have e1 : p - p / q * q = p % q := by rw [Int.emod_def, Int.mul_comm]
        have e2 : r - r / s * s = r % s := by rw [Int.emod_def, Int.mul_comm]
        have fl : ∀ (z : Int), b_Frac_isAbove_89 cf co F sg t z = (if w32 t = w32 z then some ((0 : Int), sg) else some (1, sg)) := fun z => by
          unfold b_Frac_isAbove_89
          by_cases c : w32 z = w32 t
          · rw [if_pos c, if_pos c.symm]
          · rw [if_neg c, if_neg (fun e => c e.symm)]
        rw [e1, e2, fl, fl]
        by_cases c : p / q = r / s
        · rw [if_pos c]
          have nx := next (by omega) (by omega) c
          rw [XT_next ht c] at nx
          rcases ht with h | h
          · rw [h] at nx ⊢
            exact nx
          · rw [h] at nx ⊢
            exact nx
        · rw [if_neg c]
          by_cases c2 : p / q ≤ r / s
          · rw [if_pos c2]
            exact b01_t ht 0 (.inl rfl) (by rw [k.2.2.2.1 (by omega) (by omega) (by omega)]; omega) sg
          · rw [if_neg c2]
            exact b01_t ht 1 (.inr rfl) (by rw [k.2.2.2.2 (by omega) (by omega) (by omega)]; omega) sg
  intro k
  induction k with
  | zero =>
    intro n i p q r s t h ht hq hn hi
    obtain ⟨m, rfl⟩ : ∃ m, n = m + 1 := ⟨n - 1, by omega⟩
    refine step m i p q r s t h ht (by omega) (fun a _ _ => ?_)
    have : (2 : Int) ^ 0 = 1 := by decide
    omega
  | succ k ih =>
    intro n i p q r s t h ht hq hn hi
    obtain ⟨m, rfl⟩ : ∃ m, n = m + 1 + 1 := ⟨n - 2, by omega⟩
    refine step (m + 1) i p q r s t h ht (by omega) (fun a b c => ?_)
    have f1 := FS_next h a b
    refine step m (i + 1) _ _ _ _ _ f1 (by omega) (by omega) (fun a2 b2 c2 => ?_)
    have f2 := FS_next f1 a2 b2
    refine ih m (i + 1 + 1) _ _ _ _ _ f2 (by omega) ?_ (by omega) (by omega)
    have l1 := Int.emod_lt_of_pos p a
    have l3 := halvesI a2 l1
    rw [Int.pow_succ] at hq
    omega
theorem aboveX_eq {F cf co : Nat} {sg : St} {p q r s : Int} (ep : sg cf 0 = p) (eq : sg cf 1 = q) (er : sg co 0 = r) (es : sg co 1 = s) (h1 : R63 p) (h2 : R63 q) (h3 : R63 r) (h4 : R63 s) (hq : 0 < q) (hs : 0 < s) (hF : 200 ≤ F) : f_Frac_isAbove F cf co sg = some (b01 (r * q < p * s), sg) := by
  have z := aboveX_loop (F := F) (cf := cf) (co := co) (sg := sg) 63 F 0 p q r s 0 ⟨h1, h2, h3, h4, by omega, by omega, fun _ => by omega, fun _ => by omega⟩ (.inl rfl) (lt63 h2) (by omega) (by omega)
  have e : (0 < XT 0 p q r s) = (r * q < p * s) := by
    unfold XT
    rw [if_pos rfl]
    apply propext
    omega
  unfold f_Frac_isAbove
  rw [ep, eq, er, es]
  refine z.trans ?_
  unfold b01
  by_cases c : r * q < p * s
  · rw [if_pos c, if_pos (by rw [e]; exact c)]
  · rw [if_neg c, if_neg (by rw [e]; exact c)]
